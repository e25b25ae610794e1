/** Promises 9 to 14, 22, 47 to 54: a pass, a bout, and MEN one by one; no slips. */
public final class PassTest {
    private static final Due DUE = new Due("PassTest");

    public static void main(String[] args) {
        LongBoats x = Due.told(Harbours.THREE);
        forces(x);
        passes(x);
        bouts(x);
        manByMan(x);
        waves(x);
        edges();
        DUE.close();
    }

    private static void forces(LongBoats x) {
        DUE.due("speed(0, 1)", x.speed(0, 1), 8);
        DUE.due("speed(0, 0)", x.speed(0, 0), 9);
        DUE.due("speed(0, 2)", x.speed(0, 2), -2);
        DUE.due("speed(-1, 0)", x.speed(-1, 0), -2);
        DUE.due("force 0", x.force(0, 0, 1, 0), 20);
        DUE.due("force 0, one boat twice", x.force(0, 0, 0, 0), 21);
        DUE.due("force 0, 3 passes", x.force(0, 0, 1, 3), 14);
        DUE.due("force 0, 10 passes", x.force(0, 0, 1, 10), 0);
        DUE.due("force 0, 99 passes", x.force(0, 0, 1, 99), 0);
        DUE.due("force 1", x.force(1, 0, 1, 0), 23);
        DUE.due("force 2", x.force(2, 0, 1, 0), 12);
        DUE.due("force passes 100", x.force(0, 0, 1, 100), -2);
        DUE.due("force passes -1", x.force(0, 0, 1, -1), -2);
        DUE.due("force man 3", x.force(3, 0, 1, 0), -2);
        DUE.due("force boat 2", x.force(0, 2, 1, 0), -2);
        DUE.due("stands 0, 1", x.stands(0, 1, 0, 1, 0), 11);
        DUE.due("stands 0, 2", x.stands(0, 2, 0, 1, 0), 14);
        DUE.due("stands 1, 0", x.stands(1, 0, 0, 1, 0), 9);
        DUE.due("stands 2, 0", x.stands(2, 0, 0, 1, 0), 18);
        DUE.due("stands 2, 1", x.stands(2, 1, 0, 1, 0), 15);
        DUE.due("stands 2, 1, 3 passes", x.stands(2, 1, 0, 1, 3), 11);
        DUE.due("stands 1, 0, 3 passes", x.stands(1, 0, 0, 1, 3), 8);
        DUE.due("stands 0, 1, 99 passes", x.stands(0, 1, 0, 1, 99), 0);
        DUE.due("stands himself", x.stands(0, 0, 0, 1, 0), -2);
        DUE.due("stands passes 100", x.stands(0, 1, 0, 1, 100), -2);
        DUE.due("stands against 3", x.stands(0, 3, 0, 1, 0), -2);
    }

    private static void passes(LongBoats x) {
        int[] result = {0, 0, 3, 3, 3, 2, 2};
        int[] whyZero = {0, 0, 3, 3, 3, 0, 0};
        int[] whyOne = {0, 0, 3, 3, 3, 1, 1};
        for (int gap = 0; gap < 7; gap++) {
            DUE.due("pass 0 1 at " + gap, x.pass(0, 1, 0, 1, 0, gap), result[gap]);
            DUE.due("why 0 1 at " + gap, x.why(0, 1, 0, 1, 0, gap), whyZero[gap]);
            DUE.due("why 1 0 at " + gap, x.why(1, 0, 0, 1, 0, gap), whyOne[gap]);
        }
        DUE.due("pass 1 0 wide", x.pass(1, 0, 0, 1, 0, 20), 1);
        DUE.due("pass 2 0 touch", x.pass(2, 0, 0, 1, 0, 3), 1);
        DUE.due("pass 0 2 touch", x.pass(0, 2, 0, 1, 0, 3), 2);
        DUE.due("why 2 0 touch", x.why(2, 0, 0, 1, 0, 2), 2);
        DUE.due("why 0 2: who fouls does not thrust", x.why(0, 2, 0, 1, 90, 2), 0);
        DUE.due("pass 2 0 crash", x.pass(2, 0, 0, 1, 0, 1), 0);
        DUE.due("pass 2 0 wide", x.pass(2, 0, 0, 1, 0, 5), 0);
        // With 50 passes MAN 0 has no FORCE and STANDS nothing; MAN 1 has none either.
        DUE.due("pass 0 1 worn out", x.pass(0, 1, 0, 1, 50, 3), 0);
        DUE.due("pass gap 21", x.pass(0, 1, 0, 1, 0, 21), -2);
        DUE.due("pass gap -1", x.pass(0, 1, 0, 1, 0, -1), -2);
        DUE.due("pass passes 100", x.pass(0, 1, 0, 1, 100, 3), -2);
        DUE.due("pass one twice", x.pass(1, 1, 0, 1, 0, 3), -2);
        DUE.due("pass boat 2", x.pass(0, 1, 0, 2, 0, 3), -2);
        DUE.due("why gap 21", x.why(2, 0, 0, 1, 0, 21), -2);
        DUE.due("why one twice", x.why(2, 2, 0, 1, 0, 2), -2);
    }

    private static void bouts(LongBoats x) {
        DUE.due("bout 0 1 result", x.bout(0, 1, 0, 1, 0), 3);
        DUE.due("bout 0 1 pass", x.bout(0, 1, 0, 1, 1), 0);
        DUE.due("bout 2 0 result", x.bout(2, 0, 0, 1, 0), 1);
        DUE.due("bout what 2", x.bout(0, 1, 0, 1, 2), -2);
        DUE.due("bout one twice", x.bout(0, 0, 0, 1, 0), -2);
        x.image(0);
        x.rule(0, 1);
        DUE.due("bout of crashes", x.bout(0, 1, 0, 1, 0), 0);
        DUE.due("bout of crashes, pass", x.bout(0, 1, 0, 1, 1), -1);
        x.back(0);
        // FORCE 20 - 0p of MAN 0 against 22 less half of 3p: he has MAN 1 out in pass 2 (22 - 3 = 19).
        x.train(0, 3, 0);
        x.train(0, 1, 30);
        x.train(1, 1, 21);
        x.train(1, 3, 3);
        DUE.due("stands 1 0", x.stands(1, 0, 0, 1, 0), 22);
        DUE.due("bout later", x.bout(0, 1, 0, 1, 0), 2);
        DUE.due("bout later, pass", x.bout(0, 1, 0, 1, 1), 2);
        x.rule(2, 2);
        DUE.due("bout too short", x.bout(0, 1, 0, 1, 1), -1);
        x.back(0);
    }

    private static void manByMan(LongBoats x) {
        // At a TOUCH: 0 is out against 1 alone, 1 against 0 alone, 2 by fouls against both.
        DUE.due("champion", x.champion(0, 1), 0);
        DUE.due("champion boat 2", x.champion(0, 2), -2);
        DUE.due("beaten 0", x.beaten(0, 0, 1), 1);
        DUE.due("beaten 1", x.beaten(1, 0, 1), 1);
        DUE.due("beaten 2", x.beaten(2, 0, 1), 0);
        DUE.due("beaten 3", x.beaten(3, 0, 1), -2);
        DUE.due("beaten boat 2", x.beaten(0, 2, 1), -2);
        DUE.due("ring", x.ring(0, 1), -1);
        DUE.due("ring boat 2", x.ring(2, 1), -2);
        DUE.due("margin 0 1", x.margin(0, 1, 0, 1, 0), 11);
        DUE.due("margin 1 0", x.margin(1, 0, 0, 1, 0), 12);
        DUE.due("margin 2 1, 3 passes", x.margin(2, 1, 0, 1, 3), 3 - 8);
        DUE.due("margin one twice", x.margin(0, 0, 0, 1, 0), -1000);
        DUE.due("margin passes 100", x.margin(0, 1, 0, 1, 100), -1000);
        DUE.due("feared by 0", x.feared(0, 0, 1), 1);
        DUE.due("feared by 1", x.feared(1, 0, 1), 0);
        DUE.due("feared by 2", x.feared(2, 0, 1), 1);
        DUE.due("feared by 3", x.feared(3, 0, 1), -2);
        DUE.due("feared boat 2", x.feared(0, 0, 2), -2);
        // 20 - 2p is no more than 9 from 6 on; 23 - p no more than 11 from 12 on; 12 no more than 14.
        DUE.due("weary 0 1", x.weary(0, 1, 0, 1), 6);
        DUE.due("weary 1 0", x.weary(1, 0, 0, 1), 12);
        DUE.due("weary 2 0", x.weary(2, 0, 0, 1), 0);
        DUE.due("weary one twice", x.weary(2, 2, 0, 1), -2);
        DUE.due("heavy 2: a foul", x.heavy(2, 0, 0, 1), 40);
        DUE.due("heavy 0 2: no thrust", x.heavy(0, 2, 0, 1), 40);
        // 10 + w/10 - 4 - 3 is 23 from w/10 = 20 on.
        DUE.due("heavy 0 1", x.heavy(0, 1, 0, 1), 200);
        // 8 + w/10 - 4 - 4 is 20 from w/10 = 20 on.
        DUE.due("heavy 1 0", x.heavy(1, 0, 0, 1), 200);
        DUE.due("heavy one twice", x.heavy(1, 1, 0, 1), -2);
        x.train(1, 1, 7);
        DUE.due("heavy by none", x.heavy(1, 0, 0, 1), -1);
        x.train(1, 1, 20);
        DUE.due("heavy 1 0, more skill", x.heavy(1, 0, 0, 1), 80);
        x.train(1, 1, 8);
        x.train(0, 3, 0);
        DUE.due("weary by none", x.weary(0, 1, 0, 1), -1);
        x.train(0, 3, 2);
        x.rule(0, 5);
        DUE.due("champion wide", x.champion(0, 1), 0);
        x.train(0, 4, 4);
        DUE.due("champion wide, 0 leans", x.champion(0, 1), 2);
        DUE.due("beaten wide", x.beaten(0, 0, 1), 0);
        x.train(0, 4, 2);
        x.rule(0, 3);
    }

    private static void waves(LongBoats x) {
        int[] wave = {24, 12, 8, 6, 4, 4, 3, 3, 2};
        for (int beats = 0; beats < wave.length; beats++) {
            DUE.due("wave " + beats, x.wave(0, beats), wave[beats]);
        }
        DUE.due("wave 23", x.wave(0, 23), 1);
        DUE.due("wave 24", x.wave(0, 24), 0);
        DUE.due("wave 999", x.wave(0, 999), 0);
        DUE.due("wave 1000", x.wave(0, 1000), -2);
        DUE.due("wave -1", x.wave(0, -1), -2);
        DUE.due("wave boat 2", x.wave(2, 0), -2);
        DUE.due("calm 0", x.calm(0, 0), 24);
        DUE.due("calm 1", x.calm(0, 1), 12);
        DUE.due("calm 4", x.calm(0, 4), 4);
        DUE.due("calm 10", x.calm(0, 10), 2);
        DUE.due("calm 24", x.calm(0, 24), 0);
        DUE.due("calm 23", x.calm(0, 23), 1);
        DUE.due("calm 99", x.calm(0, 99), 0);
        DUE.due("calm 100", x.calm(0, 100), -2);
        DUE.due("calm -1", x.calm(0, -1), -2);
        DUE.due("calm boat 2", x.calm(2, 1), -2);
    }

    private static void edges() {
        LongBoats x = Due.told("harbour stream 9 gap 0 passes 1;boat oars 2 slip 0;"
                + "man weight 49 skill 0 quick 0 tires 0 leans 0 aims corner;");
        DUE.due("speed 0 at least", x.speed(0, 0), 0);
        DUE.due("force least", x.force(0, 0, 0, 99), 2);
        DUE.due("no two MEN", x.champion(0, 0), -1);
        DUE.due("nobody to fear", x.feared(0, 0, 0), -1);
        DUE.due("beaten by nobody", x.beaten(0, 0, 0), 0);
        Due.tell(x, "harbour stream 9 gap 0 passes 1;reach 0 to 0;boat oars 2 slip 0;"
                + "man weight 49 skill 0 quick 0 tires 0 leans 0 aims corner;"
                + "man weight 59 skill 0 quick 0 tires 0 leans 4 aims edge;");
        DUE.due("fears none who aims at the edge", x.feared(0, 0, 0), -1);
        DUE.due("stands least", x.stands(1, 0, 0, 0, 0), 0);
        DUE.due("touch at 0", x.pass(0, 1, 0, 0, 0, 0), 2);
        DUE.due("wide at 1, foul or not", x.why(1, 0, 0, 0, 0, 1), 1);
        // FORCE 2 is above how he STANDS, 5 - 4 - 3 being 0 at least: both thrust the other off.
        x.train(1, 5, 1);
        DUE.due("thrust off", x.pass(0, 1, 0, 0, 0, 0), 3);
        // A FORCE as much as he STANDS does not do: 2 against 6 - 4.
        x.train(1, 5, 0);
        x.train(0, 5, 0);
        x.train(0, 0, 80);
        DUE.due("force 1", x.force(1, 0, 0, 0), 8);
        DUE.due("stands 0", x.stands(0, 1, 0, 0, 0), 4);
        x.train(0, 1, 4);
        DUE.due("as much as he stands", x.why(0, 1, 0, 0, 0, 0), 0);
        x.train(0, 1, 3);
        DUE.due("one less", x.why(0, 1, 0, 0, 0, 0), 3);
    }
}
