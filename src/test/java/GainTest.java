/** Promises 22 to 24: strength, meanStrength, compensated. */
public final class GainTest {
    private GainTest() {
    }

    private static void promise22() {
        HalftoneScreens x = new HalftoneScreens();
        x.setScreen(0, 4, 0, 0, 4, 0);
        Due.same("strength without gain", x.strength(0, 5), 500);
        x.setGain(30);
        Due.same("strength of no pixel", x.strength(0, 0), 0);
        Due.same("strength of a pixel", x.strength(0, 1), 220);
        Due.same("strength of all", x.strength(0, 16), 1600);
        x.setGain(100);
        Due.same("strength at most 100", x.strength(0, 5), 1100);
        x.setScreen(0, 2, 0, 0, 1, 0);
        x.setGain(40);
        Due.same("two neighbors of one place", x.strength(0, 1), 180);
        x.setGain(60);
        Due.same("two neighbors, at most 100", x.strength(0, 1), 200);
        x.setScreen(0, 1, 0, 0, 1, 0);
        Due.same("area 1, none", x.strength(0, 0), 0);
        Due.same("area 1, all", x.strength(0, 1), 100);
        Due.badArgument("strength(0, 2)", () -> x.strength(0, 2));
        Due.badArgument("strength(0, -1)", () -> x.strength(0, -1));
        Due.badState("strength(1, -1)", () -> x.strength(1, -1));
        Due.outOfSlots("strength(3, 0)", () -> x.strength(3, 0));
        Due.outOfSlots("strength(-1, 0)", () -> x.strength(-1, 0));
    }

    private static void promise23() {
        HalftoneScreens x = new HalftoneScreens();
        Due.badState("meanStrength(0)", () -> x.meanStrength(0));
        Due.outOfSlots("meanStrength(3)", () -> x.meanStrength(3));
        Due.outOfSlots("meanStrength(-1)", () -> x.meanStrength(-1));
        x.setScreen(0, 4, 0, 0, 4, 0);
        x.setGain(30);
        Due.sameDouble("meanStrength of no tint", x.meanStrength(0), 0.0);
        x.setTint(0, 1);
        Due.sameDouble("meanStrength", x.meanStrength(0), 13.75);
        x.setScreen(0, 3, 0, 0, 1, 0);
        x.setTint(0, 1);
        Due.sameDouble("meanStrength of thirds", x.meanStrength(0), 160.0 / 3);
        x.setTint(0, 3);
        Due.sameDouble("meanStrength of all", x.meanStrength(0), 100.0);
    }

    private static void wanted(HalftoneScreens x, int... pairs) {
        for (int index = 0; index < pairs.length; index += 2) {
            Due.same("compensated(0, " + pairs[index] + ")", x.compensated(0, pairs[index]), pairs[index + 1]);
        }
    }

    private static void promise24() {
        HalftoneScreens x = new HalftoneScreens();
        x.setScreen(0, 2, 0, 0, 1, 0);
        x.setGain(40);
        wanted(x, 0, 0, 45, 0, 46, 1, 90, 1, 95, 1, 96, 2, 100, 2);
        x.setGain(60);
        wanted(x, 100, 1, 50, 0, 51, 1);
        x.setGain(0);
        x.setTint(0, 2);
        wanted(x, 24, 0, 25, 0, 26, 1, 75, 1, 76, 2);
        Due.badArgument("compensated(0, 101)", () -> x.compensated(0, 101));
        Due.badArgument("compensated(0, -1)", () -> x.compensated(0, -1));
        Due.badArgument("compensated(1, 101)", () -> x.compensated(1, 101));
        Due.badState("compensated(1, 100)", () -> x.compensated(1, 100));
        Due.outOfSlots("compensated(3, 101)", () -> x.compensated(3, 101));
        Due.outOfSlots("compensated(-1, 0)", () -> x.compensated(-1, 0));
    }

    public static void main(String[] args) {
        promise22();
        promise23();
        promise24();
        Due.finish("GainTest");
    }
}
