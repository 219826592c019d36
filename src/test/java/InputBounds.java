/** Promises 1 to 5, a test for each sentence that names a boundary case. */
final class InputBounds {
    private static final String LETTERS = "rdslb";
    private static final String DIGITS = "012345678";

    private InputBounds() {
    }

    static void testAll() {
        promise1();
        promise2();
        promise3();
        promise4();
        promise5();
        promise5Refused();
    }

    private static void promise1() {
        Sentence.test(1, "Creates three slots without screens; the gain is 0, and the buffer is empty.", () -> {
            HalftoneScreens x = new HalftoneScreens();
            Sentence.noSlotOutside(x, "screen", slot -> x.screen(slot, 0));
            for (int slot = 0; slot < 3; slot++) {
                int it = slot;
                Sentence.badState(x, "screen of slot " + it, () -> x.screen(it, 0));
            }
            for (int what = 0; what <= 4; what++) {
                Due.same("count(" + what + ")", x.count(what), 0);
            }
            Due.same("firstError", x.firstError(), 0);
            Due.same("clearInput", x.clearInput(), 0);
        });
        Sentence.test(1, "The gain is 0 to 100 (0 at first).",
            () -> Due.same("setGain(1)", new HalftoneScreens().setGain(1), 0));
        Sentence.test(1, "NONE = -1: There is no such number.",
            () -> Due.same("NONE", HalftoneScreens.NONE, -1));
        Sentence.test(1, "There are three slots, 0 to 2; each of them has a screen or none.", () -> {
            HalftoneScreens x = new HalftoneScreens();
            for (int slot = 2; slot >= 0; slot--) {
                Due.same("setScreen of slot " + slot, x.setScreen(slot, slot + 1, 0, 0, 1, 0), slot + 1);
            }
            Due.same("screens", x.count(0), 3);
            Due.same("sum of areas", x.count(1), 6);
        });
        Sentence.test(1, "An object is used for at most 512 calls after it has been made", () -> {
            HalftoneScreens x = new HalftoneScreens();
            // 51 rounds of ten calls each, then the last two.
            for (int round = 0; round < 51; round++) {
                int slot = round % 3;
                int a = 1 + round % 8;
                x.setScreen(slot, a, 0, -1, 8, round % 5);
                x.setCenter(slot, true);
                x.turn(slot, 0);
                x.shorten(slot);
                x.setTint(slot, 8 * a);
                x.append('8');
                Due.same("clearInput in round " + round, x.clearInput(), 1);
                Due.same("mixture(0) in round " + round, x.mixture(0), 0);
                Due.same("count(2) in round " + round, x.count(2), 8 * a);
                Due.same("remove in round " + round, x.remove(slot), 0);
            }
            Due.same("call number 511: digest", x.digest(), new HalftoneScreens().digest());
            Due.same("call number 512: setScreen", x.setScreen(2, 8, 0, 0, 8, 4), 64);
        });
    }

    private static void promise2() {
        Sentence.test(2, "Returns the new length of the buffer.", () -> {
            HalftoneScreens x = new HalftoneScreens();
            for (int length = 1; length <= 20; length++) {
                Due.same("append number " + length, x.append('0' + length), length);
            }
            x.clearInput();
            Due.same("append to the cleared buffer", x.append('0'), 1);
        });
        Sentence.test(2, "The input buffer has at most 20 characters.", () -> {
            HalftoneScreens x = Sentence.typed("1234567890123456789");
            Due.same("the character number 20", x.append('~'), 20);
            Sentence.badState(x, "character number 21", () -> x.append('~'));
            Due.same("count(4)", x.count(4), 20);
        });
        Sentence.test(2, "Throws IllegalArgumentException if code is not 32 to 126", () -> {
            HalftoneScreens x = Sentence.typed("3,");
            Sentence.badOutside(x, "append", 32, 126, it -> x.append(it));
            int[] bad = {0, 10, -32, 128, 256 + '0', 65536 + '0'};
            for (int it : bad) {
                Sentence.badArgument(x, "append " + it, () -> x.append(it));
            }
            Due.same("append 32", x.append(32), 3);
            Due.same("append 126", x.append(126), 4);
        });
        Sentence.test(2, "Throws IllegalStateException if the buffer has 20 characters", () -> {
            HalftoneScreens x = Sentence.typed("--------------------");
            Sentence.badState(x, "append 32", () -> x.append(32));
            Sentence.badState(x, "append 126", () -> x.append(126));
            x.clearInput();
            Due.same("append to the cleared buffer", x.append(126), 1);
        });
        Sentence.test(2, Sentence.FIRST_NAMED, () -> {
            HalftoneScreens x = Sentence.typed("--------------------");
            Sentence.badOutside(x, "append to a full buffer", 32, 126, it -> x.append(it));
        });
        Sentence.test(2, Sentence.CHANGES_NOTHING, () -> {
            HalftoneScreens x = Sentence.typed("1,0;0,1");
            Sentence.badArgument(x, "append 127", () -> x.append(127));
            x.append('r');
            Due.same("load", x.load(0), 1);
        });
    }

    private static void promise3() {
        Sentence.test(3, "Returns the length that it had.", () -> {
            HalftoneScreens x = new HalftoneScreens();
            Due.same("clearInput of an empty buffer", x.clearInput(), 0);
            x.append(' ');
            Due.same("clearInput of one character", x.clearInput(), 1);
            Due.type(x, "12345678901234567890");
            Due.same("clearInput of a full buffer", x.clearInput(), 20);
            Due.same("clearInput of a cleared buffer", x.clearInput(), 0);
        });
        Sentence.test(3, "Clears the input buffer.", () -> {
            HalftoneScreens x = Sentence.typed("9,1;-1,3r*");
            x.clearInput();
            Due.same("count(4)", x.count(4), 0);
            Due.same("firstError", x.firstError(), 0);
            Sentence.badState(x, "load", () -> x.load(0));
            Due.same("digest, as of a new object", x.digest(), new HalftoneScreens().digest());
            nothingIsLeft("-8,-8;-8,-7b*", "1,2;3,4r", 2);
            nothingIsLeft("-", "8,2;3,1s", 2);
            nothingIsLeft("1,1;-", "1,0;0,8d", 8);
            HalftoneScreens y = Sentence.typed("1,0;0,1r*");
            y.clearInput();
            Due.type(y, "1,0;0,1");
            Sentence.badState(y, "load without the letter that was there before", () -> y.load(0));
            Due.same("firstError of it", y.firstError(), 7);
        });
    }

    private static void nothingIsLeft(String before, String text, int area) {
        HalftoneScreens x = Sentence.typed(before);
        x.firstError();
        x.clearInput();
        Due.type(x, text);
        Due.same("load of \"" + text + "\" after \"" + before + "\"", x.load(0), area);
        int[] components = {text.charAt(0) - '0', text.charAt(2) - '0', text.charAt(4) - '0', text.charAt(6) - '0', area};
        Sentence.properties(x, 0, components);
        Due.same("spot of it", x.screen(0, 8), LETTERS.indexOf(text.charAt(7)));
        Due.same("center of it", x.screen(0, 9), 0);
    }

    private static void error(String text, int due) {
        Due.same("firstError of \"" + text + "\"", Sentence.typed(text).firstError(), due);
    }

    /** Of all characters, only these may follow that text. */
    private static void followed(String text, String allowed) {
        for (int code = 32; code <= 126; code++) {
            boolean isAllowed = allowed.indexOf(code) >= 0;
            error(text + (char) code, text.length() + (isAllowed ? 1 : 0));
        }
    }

    private static void promise4() {
        Sentence.test(4, "Returns the index of the first character that is a syntax error; "
            + "the length of the buffer if there is none.", () -> {
                error("", 0);
                error("x", 0);
                error("-", 1);
                error("3,1;-1,3r", 9);
                error("-8,-8;-8,-8r*", 13);
                error("-8,-8;-8,-8r**", 13);
                error("-8,-8;-8,-8r*xxxxxxx", 13);
                error("00000000000000000000", 1);
            });
        Sentence.test(4, "The buffer is read from left to right, and a character that these rules do not allow "
            + "at its place is a syntax error.", () -> {
                error("1,x;y", 2);
                error("x1,1;1,1r", 0);
                error("1,1;1,19r9", 7);
                error("1,1;1,1r 1,1;1,1r", 8);
            });
        Sentence.test(4, "a component is \"-\" or nothing and a digit 0 to 8 (\"-0\" is allowed)", () -> {
            String[] before = {"", "1,", "1,1;", "1,1;1,"};
            for (String text : before) {
                followed(text, "-" + DIGITS);
                followed(text + "-", DIGITS);
            }
        });
        Sentence.test(4, "\",\" is between the components of a vector, \";\" between the vectors", () -> {
            followed("8", ",");
            followed("-0", ",");
            followed("8,0", ";");
            followed("-8,-1", ";");
            followed("8,0;2", ",");
            followed("8,0;-2", ",");
        });
        Sentence.test(4, "the letters are \"r\", \"d\", \"s\", \"l\" and \"b\" for the spots 0 to 4", () -> {
            followed("1,0;0,1", LETTERS);
            followed("-1,-0;-0,-1", LETTERS);
        });
        Sentence.test(4, "\"*\" says that it is centered in the middle", () -> {
            for (char letter : LETTERS.toCharArray()) {
                followed("1,0;0,1" + letter, "*");
                followed("1,0;0,1" + letter + "*", "");
            }
        });
    }

    private static void loaded(String text, int area, int spot, int middle) {
        HalftoneScreens x = Sentence.typed(text);
        Due.same("load of \"" + text + "\"", x.load(0), area);
        Due.same("spot of \"" + text + "\"", x.screen(0, 8), spot);
        Due.same("center of \"" + text + "\"", x.screen(0, 9), middle);
    }

    private static void promise5() {
        Sentence.test(5, "the letters are \"r\", \"d\", \"s\", \"l\" and \"b\" for the spots 0 to 4", () -> {
            for (int spot = 0; spot <= 4; spot++) {
                loaded("3,1;-1,3" + LETTERS.charAt(spot), 10, spot, 0);
                loaded("3,1;-1,3" + LETTERS.charAt(spot) + "*", 10, spot, 1);
            }
        });
        Sentence.test(5, "a component is \"-\" or nothing and a digit 0 to 8 (\"-0\" is allowed)", () -> {
            for (int x = 0; x <= 8; x++) {
                HalftoneScreens y = Sentence.typed("-" + x + ",8;1,-" + (8 - x) + "s");
                int area = Math.abs(x * (8 - x) - 8);
                if (area > 0) {
                    Due.same("area for " + x, y.load(0), area);
                    Sentence.properties(y, 0, -x, 8, 1, x - 8, area);
                }
            }
            HalftoneScreens y = Sentence.typed("-8,-0;-0,-8r");
            y.load(0);
            Sentence.properties(y, 0, -8, 0, 0, -8, 64);
        });
        Sentence.test(5, "A buffer without a syntax error is complete if it ends with the letter or with \"*\".", () -> {
            String whole = "-3,-1;-1,-3d*";
            for (int length = 0; length < 12; length++) {
                HalftoneScreens x = Sentence.typed(whole.substring(0, length));
                Due.same("firstError of " + length + " characters", x.firstError(), length);
                Sentence.badState(x, "load of " + length + " characters", () -> x.load(0));
            }
            loaded(whole.substring(0, 12), 8, 1, 0);
            loaded(whole, 8, 1, 1);
        });
        Sentence.test(5, "Puts the screen in the buffer into a slot, in place of the one there, "
            + "with a tint of 0 steps, and clears the buffer.", () -> {
                HalftoneScreens x = Sentence.all();
                x.clearInput();
                Due.type(x, "2,0;0,1l");
                Due.same("load into slot 1", x.load(1), 2);
                Sentence.properties(x, 1, 2, 0, 0, 1, 2, 2, 0, 1, 3, 0, 0);
                Due.same("count(4)", x.count(4), 0);
                Due.same("screens", x.count(0), 3);
                Due.same("tints of the other slots", x.count(2), 12);
                Sentence.badState(x, "load once more", () -> x.load(1));
            });
    }

    private static void area(String text, int area) {
        HalftoneScreens x = Sentence.typed(text);
        if (area >= 1 && area <= 64) {
            Due.same("load of \"" + text + "\"", x.load(2), area);
        } else {
            Sentence.badArgument(x, "load of \"" + text + "\"", () -> x.load(2));
            Due.same("buffer after it", x.count(4), text.length());
            Due.same("screens after it", x.count(0), 0);
        }
    }

    private static void promise5Refused() {
        Sentence.test(5, Sentence.NO_SLOT, () -> {
            HalftoneScreens x = Sentence.typed("3,1;-1,3r");
            Sentence.noSlotOutside(x, "load", slot -> x.load(slot));
            Due.same("load into slot 2", x.load(2), 10);
            Due.type(x, "1,0;0,1r");
            Due.same("load into slot 0", x.load(0), 1);
        });
        Sentence.test(5, "Throws IllegalStateException if the buffer is not the complete text of a screen", () -> {
            String[] texts = {"", " ", "r", "*", "3,1;-1,3", "3,1;-1,3*", "3,1;-1,3r*r", "3,1;-1,3r ", " 3,1;-1,3r",
                "9,1;-1,3r", "3;1,-1;3r", "3,1,-1,3r", "3,1;-1,3r**", "3,1;-1r", "r3,1;-1,3", "12345678901234567890"};
            for (String text : texts) {
                HalftoneScreens x = Sentence.typed(text);
                Sentence.badState(x, "load of \"" + text + "\"", () -> x.load(0));
            }
        });
        Sentence.test(5, "Throws IllegalArgumentException if the area of this screen would not be 1 to 64", () -> {
            area("0,0;0,0r", 0);
            area("8,8;8,8b*", 0);
            area("-2,1;4,-2d", 0);
            area("1,0;0,1r", 1);
            area("1,0;0,-1r", 1);
            area("8,0;0,8r*", 64);
            area("0,8;8,1s", 64);
            area("8,1;-1,8l", 65);
            area("-8,1;1,8l", 65);
            area("8,8;-8,8d", 128);
        });
        Sentence.test(5, Sentence.FIRST_NAMED, () -> {
            HalftoneScreens x = Sentence.typed("3,1;");
            Sentence.noSlotOutside(x, "load of an incomplete text", slot -> x.load(slot));
            HalftoneScreens y = Sentence.typed("0,0;0,0r");
            Sentence.noSlotOutside(y, "load of area 0", slot -> y.load(slot));
            HalftoneScreens z = Sentence.typed("0,0;0,0r*x");
            Sentence.badState(z, "load of a wrong text with area 0", () -> z.load(0));
        });
        Sentence.test(5, Sentence.CHANGES_NOTHING, () -> {
            HalftoneScreens x = Sentence.all();
            Sentence.badArgument(x, "load of area 128", () -> x.load(0));
            Sentence.properties(x, 0, 3, 1, -1, 3, 10, 10, 3, 1, 0, 0, 4);
            Due.same("clearInput", x.clearInput(), 9);
            Due.type(x, "1,0;0,1");
            Sentence.badState(x, "load without a letter", () -> x.load(0));
            Sentence.properties(x, 0, 3, 1, -1, 3, 10, 10, 3, 1, 0, 0, 4);
            x.append('b');
            Due.same("load with the letter", x.load(0), 1);
        });
    }
}
