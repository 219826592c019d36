import java.util.ArrayList;
import java.util.List;

/** Promises 29 and 30: count and digest, and that a refused call changes nothing. */
public final class AllTest {
    private AllTest() {
    }

    private static void promise29() {
        HalftoneScreens x = new HalftoneScreens();
        x.setScreen(0, 3, 1, -1, 3, 0);
        x.setScreen(2, 4, 0, 0, 4, 0);
        x.setTint(0, 3);
        x.setTint(2, 9);
        x.setGain(55);
        Due.type(x, "1,2;");
        int[] due = {2, 26, 12, 55, 4};
        for (int what = 0; what < due.length; what++) {
            Due.same("count(" + what + ")", x.count(what), due[what]);
        }
        Due.badArgument("count(5)", () -> x.count(5));
        Due.badArgument("count(-1)", () -> x.count(-1));
    }

    /** The values of the digest as the document tells them, made of the answers of the other calls. */
    static List<Integer> valuesOf(HalftoneScreens x, boolean[] has, String text) {
        List<Integer> values = new ArrayList<>();
        for (int what = 0; what <= 4; what++) {
            values.add(x.count(what));
        }
        for (int slot = 0; slot < 3; slot++) {
            values.add(has[slot] ? 1 : 0);
            if (has[slot]) {
                for (int what = 0; what <= 10; what++) {
                    values.add(x.screen(slot, what));
                }
                for (int place = 0; place < x.screen(slot, 4); place++) {
                    values.add(x.growth(slot, place, 0));
                    values.add(x.growth(slot, place, 1));
                }
                int tint = x.screen(slot, 10);
                values.add(x.dots(slot, tint));
                values.add(x.joined(slot, tint));
                values.add(x.strength(slot, tint));
            }
        }
        for (int one = 0; one < 3; one++) {
            for (int other = one + 1; other < 3; other++) {
                for (int what = 0; what < 8; what++) {
                    if (has[one] && has[other]) {
                        values.add(what < 4 ? x.period((1 << one) + (1 << other), what) : x.beat(one, other, what - 4));
                    }
                }
            }
        }
        for (int index = 0; index < text.length(); index++) {
            values.add((int) text.charAt(index));
        }
        return values;
    }

    private static long dueDigest(HalftoneScreens x, boolean[] has, String text) {
        long hash = 1951;
        for (int value : valuesOf(x, has, text)) {
            hash = 31 * hash + value;
        }
        return hash;
    }

    private static void promise30() {
        for (int slots = 0; slots < 8; slots++) {
            HalftoneScreens x = new HalftoneScreens();
            boolean[] has = {(slots & 1) != 0, (slots & 2) != 0, (slots & 4) != 0};
            int[][] vectors = {{3, 1, -1, 3, 4}, {4, 0, 0, 4, 2}, {2, 3, -2, 3, 3}};
            x.setGain(35);
            for (int slot = 0; slot < 3; slot++) {
                if (has[slot]) {
                    x.setScreen(slot, vectors[slot][0], vectors[slot][1], vectors[slot][2], vectors[slot][3], vectors[slot][4]);
                    x.setTint(slot, 3 + slot);
                    x.setCenter(slot, slot == 1);
                }
            }
            Due.type(x, "3,~ ");
            long due = dueDigest(x, has, "3,~ ");
            Due.same("digest of slots " + slots, x.digest(), due);
            Due.same("digest again of slots " + slots, x.digest(), due);
        }
    }

    private static void refusedCallsChangeNothing() {
        HalftoneScreens x = new HalftoneScreens();
        x.setScreen(0, 3, 1, -1, 3, 4);
        x.setTint(0, 3);
        x.setGain(20);
        Due.type(x, "8,8;-8,8r");
        long before = x.digest();
        Due.badArgument("append", () -> x.append(200));
        Due.badArgument("load", () -> x.load(0));
        Due.badArgument("setScreen", () -> x.setScreen(0, 8, 8, -8, 8, 0));
        Due.badState("remove", () -> x.remove(1));
        Due.badState("setCenter", () -> x.setCenter(1, true));
        Due.badArgument("turn", () -> x.turn(0, 3));
        Due.badState("shorten", () -> x.shorten(2));
        Due.badArgument("setTint", () -> x.setTint(0, 11));
        Due.badArgument("setGain", () -> x.setGain(101));
        Due.same("digest after refused calls", x.digest(), before);
    }

    public static void main(String[] args) {
        promise29();
        promise30();
        refusedCallsChangeNothing();
        Due.finish("AllTest");
    }
}
