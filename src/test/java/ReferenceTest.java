/**
 * Runs the same calls on HalftoneScreens and on the slow Reference. The calls are drawn from a
 * fixed sequence of numbers, good and bad arguments mixed, so each run of this test is the same.
 */
public final class ReferenceTest {
    private static final int RUNS = 300;
    // The document promises an object 512 calls; one round makes some 60 of them at most.
    private static final int CALLS = 450;
    private static final String[] TEXTS = {"3,1;-1,3r", "3,1;-1,3r*", "-8,-7;-7,-6b*", "4,-0;0,4s", "2,0;0,3l*",
        "8,8;-4,4d", "8,8;8,7l", "0,0;0,0r", "8,8;-8,8s", "-1,2;3,", "9", "1,1,1", "1;1", "--1", "1,0;0,1rr", "1,0;0,1r**"};

    private static long seed = 20261119;
    private static int calls;

    private ReferenceTest() {
    }

    private static int draw(int least, int most) {
        seed = seed * 6364136223846793005L + 1442695040888963407L;
        return least + (int) ((seed >>> 33) % (most - least + 1));
    }

    private static int drawSlot() {
        return draw(0, 24) == 0 ? draw(0, 1) * 4 - 1 : draw(0, 2);
    }

    /** A number of the range, now and then one that is just outside it. */
    private static int drawNear(int least, int most) {
        int kind = draw(0, 39);
        return kind == 0 ? least - 1 : kind == 1 ? most + 1 : kind == 2 ? least : kind == 3 ? most : draw(least, most);
    }

    private interface Call {
        Object run();
    }

    private static String answer(Call call) {
        try {
            return String.valueOf(call.run());
        } catch (RuntimeException e) {
            return e.getClass().getName();
        }
    }

    private static void both(String what, Call ours, Call theirs) {
        calls++;
        Due.sameText(what, answer(ours), answer(theirs));
    }

    private static int drawSteps(Reference y, int slot) {
        int area = slot >= 0 && slot <= 2 && y.screens[slot] != null ? y.screens[slot].area() : 10;
        return drawNear(0, area);
    }

    private static void change(HalftoneScreens x, Reference y) {
        int slot = drawSlot();
        int kind = draw(0, 10);
        if (kind <= 2) {
            int a = drawNear(-8, 8);
            int b = drawNear(-8, 8);
            int c = draw(0, 3) == 0 ? a + draw(-1, 1) : drawNear(-8, 8);
            int d = draw(0, 3) == 0 ? b + draw(-1, 1) : drawNear(-8, 8);
            int spot = drawNear(0, 4);
            both("setScreen " + slot + " " + a + " " + b + " " + c + " " + d + " " + spot,
                () -> x.setScreen(slot, a, b, c, d, spot), () -> y.setScreen(slot, a, b, c, d, spot));
        } else if (kind == 3) {
            if (draw(0, 5) == 0) {
                both("remove " + slot, () -> x.remove(slot), () -> y.remove(slot));
            }
        } else if (kind == 4) {
            boolean middle = draw(0, 2) > 0;
            both("setCenter " + slot + " " + middle, () -> x.setCenter(slot, middle), () -> y.setCenter(slot, middle));
        } else if (kind == 5) {
            int how = drawNear(0, 2);
            both("turn " + slot + " " + how, () -> x.turn(slot, how), () -> y.turn(slot, how));
        } else if (kind == 6) {
            both("shorten " + slot, () -> x.shorten(slot), () -> y.shorten(slot));
        } else if (kind == 7) {
            int steps = drawSteps(y, slot);
            both("setTint " + slot + " " + steps, () -> x.setTint(slot, steps), () -> y.setTint(slot, steps));
        } else if (kind == 8) {
            int gain = drawNear(0, 100);
            both("setGain " + gain, () -> x.setGain(gain), () -> y.setGain(gain));
        } else if (kind == 9) {
            String text = TEXTS[draw(0, TEXTS.length - 1)];
            if (draw(0, 2) > 0) {
                both("clearInput", () -> x.clearInput(), () -> y.clearInput());
            }
            for (int index = 0; index < text.length(); index++) {
                int code = draw(0, 99) == 0 ? draw(30, 128) : text.charAt(index);
                both("append " + code, () -> x.append(code), () -> y.append(code));
            }
        } else {
            both("firstError", () -> x.firstError(), () -> y.firstError());
            both("load " + slot, () -> x.load(slot), () -> y.load(slot));
        }
    }

    private static void ask(HalftoneScreens x, Reference y) {
        int slot = drawSlot();
        int other = drawSlot();
        int px = drawNear(-10000, 10000);
        int py = drawNear(-10000, 10000);
        int steps = drawSteps(y, slot);
        int place = drawSteps(y, slot);
        int times = drawNear(1, 2);
        int most = draw(0, 1) == 0 ? draw(1, 128) : drawNear(1, 128);
        int p = drawNear(0, draw(0, 1) == 0 ? 12 : 1000);
        int q = drawNear(1, draw(0, 1) == 0 ? 12 : 1000);
        int what = drawNear(0, 3);
        both("place", () -> x.place(slot, px, py), () -> y.place(slot, px, py));
        both("growth", () -> x.growth(slot, place, what % 3), () -> y.growth(slot, place, what % 3));
        both("placeOf", () -> x.placeOf(slot, place), () -> y.placeOf(slot, place));
        both("pixel", () -> x.pixel(px, py), () -> y.pixel(px, py));
        both("strength", () -> x.strength(slot, steps), () -> y.strength(slot, steps));
        both("meanStrength", () -> x.meanStrength(slot), () -> y.meanStrength(slot));
        both("nearest " + p + " " + q + " " + most, () -> x.nearest(p, q, most, what), () -> y.nearest(p, q, most, what));
        int number = drawNear(0, 4);
        both("count", () -> x.count(number), () -> y.count(number));
        int property = drawNear(0, 10);
        both("screen", () -> x.screen(slot, property), () -> y.screen(slot, property));
        if (draw(0, 3) == 0) {
            both("dots " + steps, () -> x.dots(slot, steps), () -> y.dots(slot, steps));
            both("joined " + steps, () -> x.joined(slot, steps), () -> y.joined(slot, steps));
            int width = drawNear(1, 64);
            int height = drawNear(1, 64);
            both("inked", () -> x.inked(slot, px, py, width, height), () -> y.inked(slot, px, py, width, height));
            int slots = drawNear(1, 7);
            both("period " + slots, () -> x.period(slots, what), () -> y.period(slots, what));
            both("beat", () -> x.beat(slot, other, what), () -> y.beat(slot, other, what));
            int inks = drawNear(0, 7);
            both("mixture " + inks, () -> x.mixture(inks), () -> y.mixture(inks));
            int wanted = drawNear(0, 100);
            both("compensated " + wanted, () -> x.compensated(slot, wanted), () -> y.compensated(slot, wanted));
        }
        if (draw(0, 39) == 0) {
            both("firstJoined " + times, () -> x.firstJoined(slot, times), () -> y.firstJoined(slot, times));
            both("digest", () -> x.digest(), () -> y.digest());
        }
    }

    public static void main(String[] args) {
        for (int run = 0; run < RUNS; run++) {
            HalftoneScreens x = new HalftoneScreens();
            Reference y = new Reference();
            calls = 0;
            while (calls < CALLS) {
                change(x, y);
                ask(x, y);
            }
            both("digest at the end of run " + run, () -> x.digest(), () -> y.digest());
        }
        Due.finish("ReferenceTest");
    }
}
