/** Promises 2 to 5: append, clearInput, firstError, load. */
public final class InputTest {
    private InputTest() {
    }

    private static void promise2() {
        HalftoneScreens x = new HalftoneScreens();
        Due.same("append the least code", x.append(32), 1);
        Due.same("append the greatest code", x.append(126), 2);
        for (int length = 3; length <= 20; length++) {
            Due.same("append number " + length, x.append('0'), length);
        }
        long before = x.digest();
        Due.badState("append to 20 characters", () -> x.append('0'));
        Due.badArgument("append 31 to 20 characters", () -> x.append(31));
        Due.badArgument("append 127 to 20 characters", () -> x.append(127));
        Due.same("count(4)", x.count(4), 20);
        Due.same("digest after refused appends", x.digest(), before);
        HalftoneScreens y = new HalftoneScreens();
        Due.badArgument("append 31", () -> y.append(31));
        Due.badArgument("append 127", () -> y.append(127));
        Due.badArgument("append -1", () -> y.append(-1));
        Due.badArgument("append least int", () -> y.append(Integer.MIN_VALUE));
        Due.same("length after refused appends", y.count(4), 0);
    }

    private static void promise3() {
        HalftoneScreens x = new HalftoneScreens();
        Due.same("clearInput of an empty buffer", x.clearInput(), 0);
        Due.type(x, "3,1");
        Due.same("clearInput", x.clearInput(), 3);
        Due.same("clearInput again", x.clearInput(), 0);
        Due.same("count(4)", x.count(4), 0);
        Due.type(x, "12345678901234567890");
        Due.same("clearInput of a full buffer", x.clearInput(), 20);
        Due.same("append after clearInput", x.append('1'), 1);
    }

    private static void error(String text, int due) {
        HalftoneScreens x = new HalftoneScreens();
        Due.type(x, text);
        Due.same("firstError of " + text, x.firstError(), due);
        Due.same("firstError once more of " + text, x.firstError(), due);
        Due.same("length after firstError of " + text, x.count(4), text.length());
    }

    private static void promise4() {
        error("", 0);
        error("3,1;-1,3r", 9);
        error("3,1;-1,3r*", 10);
        error("-8,-8;-0,-8b*", 13);
        error("-", 1);
        error("3,1;-", 5);
        error("--1", 1);
        error("-,", 1);
        error("9", 0);
        error("3,9", 2);
        error("3,1;-9", 5);
        error("33", 1);
        error("3;", 1);
        error("3,1,", 3);
        error("3,1;1;", 5);
        error("3,1;1,1,", 7);
        error("3,1;1,1;", 7);
        error("3,1r", 3);
        error("3,1;1,1x", 7);
        error("3,1;1,1R", 7);
        error("3,1;1,1*", 7);
        error("3,1;1,1rr", 8);
        error("3,1;1,1r**", 9);
        error("3,1;1,1r*r", 9);
        error("3,1;1,1r0", 8);
        error(" 3,1", 0);
        error("+3", 0);
        error(",", 0);
        error("3,;", 2);
        for (char letter : "rdslb".toCharArray()) {
            error("1,0;0,1" + letter, 8);
        }
    }

    private static void loaded(String text, int... due) {
        HalftoneScreens x = new HalftoneScreens();
        Due.type(x, text);
        Due.same("load " + text, x.load(1), due[4]);
        int[] what = {0, 1, 2, 3, 4, 8, 9};
        for (int index = 0; index < what.length; index++) {
            Due.same("property " + what[index] + " of " + text, x.screen(1, what[index]), due[index]);
        }
        Due.same("tint of " + text, x.screen(1, 10), 0);
        Due.same("buffer after load of " + text, x.count(4), 0);
        HalftoneScreens y = new HalftoneScreens();
        y.setScreen(1, due[0], due[1], due[2], due[3], due[5]);
        y.setCenter(1, due[6] == 1);
        Due.same("digest of " + text, x.digest(), y.digest());
    }

    private static void notComplete(String text) {
        HalftoneScreens x = new HalftoneScreens();
        Due.type(x, text);
        Due.badState("load " + text, () -> x.load(0));
        Due.outOfSlots("load " + text + " into -1", () -> x.load(-1));
        Due.same("length after refused load", x.count(4), text.length());
        Due.same("screens after refused load", x.count(0), 0);
    }

    private static void promise5() {
        loaded("3,1;-1,3r", 3, 1, -1, 3, 10, 0, 0);
        loaded("3,1;-1,3r*", 3, 1, -1, 3, 10, 0, 1);
        loaded("4,0;-0,4d", 4, 0, 0, 4, 16, 1, 0);
        loaded("-4,-0;0,4s*", -4, 0, 0, 4, 16, 2, 1);
        loaded("8,8;8,7l", 8, 8, 8, 7, 8, 3, 0);
        loaded("8,0;0,-8b*", 8, 0, 0, -8, 64, 4, 1);
        notComplete("");
        notComplete("3,1;-1,3");
        notComplete("3,1;-1,");
        notComplete("-");
        notComplete("3,1;-1,3rr");
        notComplete("3,1;-1,3r*r");
        notComplete("9,1;-1,3r");
        areas();
        replaced();
    }

    private static void areas() {
        String[] texts = {"0,0;0,0r", "2,1;4,2r*", "8,8;-8,8s", "8,1;-1,8l", "0,8;8,1b"};
        for (int index = 0; index < 4; index++) {
            HalftoneScreens x = new HalftoneScreens();
            Due.type(x, texts[index]);
            long before = x.digest();
            Due.badArgument("load " + texts[index], () -> x.load(2));
            Due.outOfSlots("load 3 " + texts[index], () -> x.load(3));
            Due.same("digest after refused load", x.digest(), before);
        }
        loaded(texts[4], 0, 8, 8, 1, 64, 4, 0);
    }

    private static void replaced() {
        HalftoneScreens x = new HalftoneScreens();
        x.setScreen(2, 4, 0, 0, 4, 0);
        x.setTint(2, 7);
        x.setCenter(2, true);
        Due.type(x, "2,0;0,2d");
        Due.same("load in place of another screen", x.load(2), 4);
        Due.same("its tint", x.screen(2, 10), 0);
        Due.same("its center", x.screen(2, 9), 0);
        Due.same("count of screens", x.count(0), 1);
        Due.badState("load once more", () -> x.load(2));
    }

    /** What was read before must not be left in what is read next. */
    private static void readAnew() {
        String[] before = {"-", "3,1;-1,-", "1,1;1,1s*", "8,8;8,8b*"};
        for (String text : before) {
            HalftoneScreens x = new HalftoneScreens();
            Due.type(x, text);
            x.firstError();
            x.clearInput();
            Due.type(x, "4,1;0,4r");
            Due.same("load after " + text, x.load(0), 16);
            int[] due = {4, 1, 0, 4, 16, 16, 4, 1, 0, 0, 0};
            for (int what = 0; what < due.length; what++) {
                Due.same("after " + text + ", property " + what, x.screen(0, what), due[what]);
            }
        }
    }

    public static void main(String[] args) {
        promise2();
        promise3();
        promise4();
        promise5();
        readAnew();
        Due.finish("InputTest");
    }
}
