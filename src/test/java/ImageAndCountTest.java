/** Promises 37 to 39: image, on, count. */
public final class ImageAndCountTest {
    private static final Check CHECK = new Check("ImageAndCountTest");

    public static void main(String[] args) {
        imageOfNothing();
        imageOfAll();
        imageStays();
        notInTheImage();
        count();
        countRefusals();
        CHECK.end();
    }

    private static void imageOfNothing() {
        Counted x = new Counted();
        CHECK.refused("on(), no IMAGE", x, -3, x::on);
        String before = x.shop();
        CHECK.due("image()", x.image(), 0);
        CHECK.same("image()", x.shop(), before);
        changeAll(x);
        CHECK.due("on()", x.on(), 0);
        CHECK.same("on()", x.shop(), before);
    }

    private static void imageOfAll() {
        Counted x = Check.told("l1020304050;k1121314151;k1020304050;mr4;mw1;c00;u025;x1;s7;");
        String before = x.shop();
        CHECK.due("image()", x.image(), 25);
        CHECK.same("image()", x.shop(), before);
        CHECK.due("FROM ahead of it", x.family(2, 1), 0);
        changeAll(x);
        CHECK.due("on()", x.on(), 25);
        CHECK.same("on()", x.shop(), before);
        CHECK.due("FROM behind it", x.family(2, 1), 0);
        CHECK.due("a KEY more", x.cut(0, 1), 3);
    }

    private static void changeAll(Counted x) {
        Check.tell(x, "l7777777777;k7171717171;k7272727272;mg2;s3;");
        x.cut(0, 0);
        x.uses(0, 40);
        x.snaps(0);
        x.files(0, 1, 88);
        x.turn(0, 1, 9);
        x.slack(9);
        x.sets(2, 3);
    }

    private static void imageStays() {
        Counted x = Check.told("k5050505050;");
        x.image();
        x.uses(0, 30);
        CHECK.due("on()", x.on(), 0);
        x.uses(0, 50);
        CHECK.due("on() again", x.on(), 0);
        CHECK.heights("on() again", x, 0, 50, 50, 50, 50, 50);
        x.uses(0, 60);
        CHECK.due("image(), another", x.image(), 60);
        x.uses(0, 20);
        x.snaps(0);
        CHECK.due("on(), from another", x.on(), 60);
        CHECK.heights("on(), from another", x, 0, 44, 44, 44, 44, 44);
        CHECK.due("SNAPPED ones", x.count(4), 0);
    }

    private static void notInTheImage() {
        Counted x = new Counted();
        Check.tellRow(x, 1, 2);
        Check.spell(x, "s5");
        x.pin(9);
        x.image();
        Check.tellRow(x, 3);
        Check.spell(x, ";");
        x.pin(9);
        CHECK.due("on()", x.on(), 0);
        CHECK.due("the ROW", x.count(6), 3);
        CHECK.due("letters", x.count(7), 3);
        CHECK.due("REFUSALS", x.count(11), 2);
        CHECK.due("lock()", x.lock(), 1);
        CHECK.due("SLACK", x.count(3), 5);
        CHECK.due("on() behind lock()", x.on(), 0);
        CHECK.due("SLACK", x.count(3), 2);
    }

    private static void count() {
        Counted x = Check.told("k5050505050;k5151515151;k6060606060;k5050505050;mm1;mh1;s3;u012;x3;");
        Check.tellRow(x, 1, 2, 3, 4);
        Check.spell(x, "abc");
        int[] due = {4, 2, 12, 3, 8, 2, 4, 3};
        for (int what = 0; what < due.length; what++) {
            int asked = what;
            CHECK.unchanged("count(" + what + ")", x, due[what], () -> x.count(asked));
        }
        for (int what : new int[] {-1, 8, 9, 10, 17, -11, Integer.MIN_VALUE, Integer.MAX_VALUE}) {
            CHECK.unchanged("count(" + what + ")", x, -9, () -> x.count(what));
        }
    }

    private static void countRefusals() {
        Counted x = Check.told("k5050505050;x0;");
        x.pin(5);
        x.mend(1);
        x.slip(1, 0, 0, 2, 0);
        x.key(0, 10);
        x.next(2);
        x.snaps(0);
        x.slack(-1);
        x.letter(-1);
        x.row(-1);
        x.files(0, 0, -1);
        x.slack(10);
        int[] due = {3, 2, 1, 4, 0, 1};
        for (int i = 0; i < 6; i++) {
            CHECK.due("count(" + (11 + i) + ")", x.count(11 + i), due[i]);
        }
        x.nearest();
        x.lock();
        CHECK.due("-9 and a FAULT are no REFUSALS", x.count(11) + x.count(12) + x.count(13), 6);
    }
}
