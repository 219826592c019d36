/** Promises 1 and 6 to 13: the constructor, the screens and their properties. */
public final class ScreensTest {
    private ScreensTest() {
    }

    private static void properties(HalftoneScreens x, int slot, int... due) {
        for (int what = 0; what < due.length; what++) {
            Due.same("screen(" + slot + ", " + what + ")", x.screen(slot, what), due[what]);
        }
    }

    private static void promise1() {
        HalftoneScreens x = new HalftoneScreens();
        for (int what = 0; what <= 4; what++) {
            Due.same("count(" + what + ") of a new object", x.count(what), 0);
        }
        for (int slot = 0; slot < 3; slot++) {
            int it = slot;
            Due.badState("screen of new slot " + slot, () -> x.screen(it, 0));
        }
        Due.same("digest of a new object", x.digest(), 1663990414047391L);
        Due.same("NONE", HalftoneScreens.NONE, -1);
        HalftoneScreens y = new HalftoneScreens();
        y.setScreen(0, 1, 0, 0, 1, 0);
        Due.same("screens of another object", x.count(0), 0);
    }

    private static void promise6() {
        HalftoneScreens x = new HalftoneScreens();
        Due.same("setScreen", x.setScreen(0, 3, 1, -1, 3, 0), 10);
        properties(x, 0, 3, 1, -1, 3, 10, 10, 3, 1, 0, 0, 0);
        Due.same("setScreen of area 64", x.setScreen(1, 8, 0, 0, -8, 4), 64);
        properties(x, 1, 8, 0, 0, -8, 64, 8, 0, 8, 4, 0, 0);
        Due.same("setScreen of area 1", x.setScreen(2, 8, 7, 7, 6, 1), 1);
        properties(x, 2, 8, 7, 7, 6, 1, 1, 0, 1, 1, 0, 0);
        x.setTint(0, 5);
        x.setCenter(0, true);
        Due.same("setScreen in place of another", x.setScreen(0, 2, 2, -2, 2, 3), 8);
        properties(x, 0, 2, 2, -2, 2, 8, 4, 2, 2, 3, 0, 0);
        Due.same("setScreen of a flat vector", x.setScreen(0, -1, -3, 2, 0, 2), 6);
        properties(x, 0, -1, -3, 2, 0, 6, 2, 1, 3, 2, 0, 0);
        long before = x.digest();
        Due.outOfSlots("slot -1", () -> x.setScreen(-1, 99, 0, 0, 1, 9));
        Due.outOfSlots("slot 3", () -> x.setScreen(3, 1, 0, 0, 1, 0));
        for (int bad = -9; bad <= 9; bad += 18) {
            int it = bad;
            Due.badArgument("a " + bad, () -> x.setScreen(0, it, 0, 0, 1, 0));
            Due.badArgument("b " + bad, () -> x.setScreen(0, 1, it, 0, 1, 0));
            Due.badArgument("c " + bad, () -> x.setScreen(0, 1, 0, it, 1, 0));
            Due.badArgument("d " + bad, () -> x.setScreen(0, 1, 0, 0, it, 0));
        }
        Due.badArgument("spot -1", () -> x.setScreen(0, 1, 0, 0, 1, -1));
        Due.badArgument("spot 5", () -> x.setScreen(0, 1, 0, 0, 1, 5));
        Due.badArgument("area 0", () -> x.setScreen(0, 2, 1, 4, 2, 0));
        Due.badArgument("no vectors", () -> x.setScreen(0, 0, 0, 0, 0, 0));
        Due.badArgument("area 65", () -> x.setScreen(0, 8, 1, -1, 8, 0));
        Due.badArgument("greatest components",
            () -> x.setScreen(0, Integer.MAX_VALUE, Integer.MIN_VALUE, Integer.MIN_VALUE, Integer.MAX_VALUE, 0));
        Due.same("digest after refused setScreen", x.digest(), before);
    }

    private static void promise7() {
        HalftoneScreens x = new HalftoneScreens();
        Due.badState("remove from an empty slot", () -> x.remove(0));
        Due.outOfSlots("remove -1", () -> x.remove(-1));
        Due.outOfSlots("remove 3", () -> x.remove(3));
        x.setScreen(0, 3, 1, -1, 3, 0);
        x.setScreen(2, 2, 2, -2, 2, 3);
        Due.same("remove", x.remove(0), 1);
        Due.badState("remove twice", () -> x.remove(0));
        Due.badState("screen after remove", () -> x.screen(0, 4));
        Due.badState("place after remove", () -> x.place(0, 0, 0));
        Due.badState("growth after remove", () -> x.growth(0, 0, 0));
        Due.badState("placeOf after remove", () -> x.placeOf(0, 0));
        Due.same("sum of areas after remove", x.count(1), 8);
        x.setTint(2, 8);
        Due.same("remove the last one", x.remove(2), 0);
        Due.same("pixel after remove", x.pixel(0, 0), 0);
        Due.same("setScreen after remove", x.setScreen(2, 2, 2, -2, 2, 3), 8);
        Due.same("tint after remove and setScreen", x.screen(2, 10), 0);
    }

    private static void promise8() {
        HalftoneScreens x = new HalftoneScreens();
        Due.badState("setCenter of an empty slot", () -> x.setCenter(1, true));
        Due.outOfSlots("setCenter -1", () -> x.setCenter(-1, true));
        Due.outOfSlots("setCenter 3", () -> x.setCenter(3, false));
        x.setScreen(1, 4, 0, 0, 4, 0);
        x.setTint(1, 3);
        Due.same("setCenter to what it is", x.setCenter(1, false), 0);
        Due.same("setCenter to the middle", x.setCenter(1, true), 10);
        Due.same("screen(1, 9)", x.screen(1, 9), 1);
        Due.same("value in the middle", x.growth(1, 10, 0), 0);
        Due.same("setCenter to the middle again", x.setCenter(1, true), 0);
        Due.same("tint after setCenter", x.screen(1, 10), 3);
        Due.same("setCenter back", x.setCenter(1, false), 10);
        Due.same("screen(1, 9) again", x.screen(1, 9), 0);
    }

    private static void promise9() {
        HalftoneScreens x = new HalftoneScreens();
        Due.badState("turn of an empty slot", () -> x.turn(0, 0));
        Due.badArgument("turn -1 of an empty slot", () -> x.turn(0, -1));
        Due.badArgument("turn 3 of an empty slot", () -> x.turn(0, 3));
        Due.outOfSlots("turn 3 of slot 3", () -> x.turn(3, 3));
        Due.outOfSlots("turn of slot -1", () -> x.turn(-1, 0));
        x.setScreen(0, 3, 1, -1, 3, 3);
        x.setTint(0, 6);
        Due.same("turn of lines", x.turn(0, 0), 8);
        properties(x, 0, -1, 3, -3, -1, 10, 10, 3, 1, 3, 0, 6);
        x.setScreen(0, 3, 1, -1, 3, 0);
        x.setCenter(0, true);
        Due.same("a mirror of round dots", x.turn(0, 1), 0);
        properties(x, 0, -3, 1, 1, 3, 10, 10, 7, 1, 0, 1, 0);
        x.setScreen(0, 3, 1, -1, 4, 0);
        x.turn(0, 2);
        properties(x, 0, 1, 3, 4, -1, 13, 13, 9, 1, 0, 0, 0);
        long before = x.digest();
        Due.badArgument("turn 3", () -> x.turn(0, 3));
        Due.same("digest after refused turn", x.digest(), before);
    }

    private static void shortened(int a, int b, int c, int d, int times, int... due) {
        HalftoneScreens x = new HalftoneScreens();
        x.setScreen(1, a, b, c, d, 0);
        x.setTint(1, 1);
        String name = "shorten " + a + " " + b + " " + c + " " + d;
        Due.same(name, x.shorten(1), times);
        for (int what = 0; what < 4; what++) {
            Due.same(name + ", then screen(1, " + what + ")", x.screen(1, what), due[what]);
        }
        Due.same("tint after " + name, x.screen(1, 10), 1);
        Due.same(name + " again", x.shorten(1), 0);
    }

    private static void promise10() {
        HalftoneScreens x = new HalftoneScreens();
        Due.badState("shorten of an empty slot", () -> x.shorten(1));
        Due.outOfSlots("shorten -1", () -> x.shorten(-1));
        Due.outOfSlots("shorten 3", () -> x.shorten(3));
        shortened(8, 7, 7, 6, 3, 1, 0, 0, 1);
        shortened(2, 0, -1, 3, 0, 2, 0, -1, 3);
        shortened(2, 0, 1, 3, 0, 2, 0, 1, 3);
        shortened(2, 0, -3, 3, 1, 2, 0, -1, 3);
        shortened(2, 0, 3, 3, 1, 2, 0, 1, 3);
        shortened(0, 3, 3, 0, 0, 0, 3, 3, 0);
        shortened(0, 4, 3, 0, 0, 3, 0, 0, 4);
        shortened(-1, 2, 8, 8, 1, -1, 2, 10, 4);
        // The middle of the new vectors is another one, and so are the lines along the first one.
        x.setScreen(0, 4, 4, 0, 4, 0);
        x.setCenter(0, true);
        Due.same("value before shorten", x.growth(0, x.place(0, 2, 2), 0), 16);
        x.shorten(0);
        properties(x, 0, 0, 4, 4, 0, 16, 4, 0, 4, 0, 1, 0);
        Due.same("value after shorten", x.growth(0, x.place(0, 2, 2), 0), 0);
        x.setScreen(0, 4, 4, 0, 4, 3);
        Due.same("line before shorten", x.growth(0, x.place(0, 1, 1), 0), 0);
        x.shorten(0);
        Due.same("line after shorten", x.growth(0, x.place(0, 1, 1), 0), 8);
    }

    private static void promise11() {
        HalftoneScreens x = new HalftoneScreens();
        Due.badState("setTint of an empty slot", () -> x.setTint(0, -1));
        Due.outOfSlots("setTint of slot 3", () -> x.setTint(3, 0));
        Due.outOfSlots("setTint of slot -1", () -> x.setTint(-1, 0));
        x.setScreen(0, 3, 1, -1, 3, 0);
        Due.same("setTint to the area", x.setTint(0, 10), 0);
        Due.same("setTint to 4", x.setTint(0, 4), 10);
        Due.badArgument("setTint 11", () -> x.setTint(0, 11));
        Due.badArgument("setTint -1", () -> x.setTint(0, -1));
        Due.same("screen(0, 10)", x.screen(0, 10), 4);
        Due.same("setTint to 0", x.setTint(0, 0), 4);
    }

    private static void promise12() {
        HalftoneScreens x = new HalftoneScreens();
        Due.same("setGain 100", x.setGain(100), 0);
        Due.badArgument("setGain 101", () -> x.setGain(101));
        Due.badArgument("setGain -1", () -> x.setGain(-1));
        Due.same("setGain 7", x.setGain(7), 100);
        Due.same("count(3)", x.count(3), 7);
        Due.same("setGain 0", x.setGain(0), 7);
    }

    private static void promise13() {
        HalftoneScreens x = new HalftoneScreens();
        Due.badArgument("screen(0, 11) of an empty slot", () -> x.screen(0, 11));
        Due.badArgument("screen(0, -1) of an empty slot", () -> x.screen(0, -1));
        Due.badState("screen(0, 0) of an empty slot", () -> x.screen(0, 0));
        Due.badState("screen(2, 10) of an empty slot", () -> x.screen(2, 10));
        Due.outOfSlots("screen(3, 11)", () -> x.screen(3, 11));
        Due.outOfSlots("screen(-1, 0)", () -> x.screen(-1, 0));
        x.setScreen(2, -5, 2, 1, -7, 4);
        x.setCenter(2, true);
        x.setTint(2, 32);
        // (-5, 2) * 3 + (1, -7) = (-14, -1), so s is 14.
        properties(x, 2, -5, 2, 1, -7, 33, 33, 14, 1, 4, 1, 32);
        x.setScreen(2, 6, 4, -2, 4, 1);
        properties(x, 2, 6, 4, -2, 4, 32, 8, 6, 4, 1, 0, 0);
        Due.badArgument("screen(2, 11)", () -> x.screen(2, 11));
    }

    public static void main(String[] args) {
        promise1();
        promise6();
        promise7();
        promise8();
        promise9();
        promise10();
        promise11();
        promise12();
        promise13();
        Due.finish("ScreensTest");
    }
}
