/** The boundary cases of promise 18, and of what the terms say of a rig. */
public final class RigsBoundsTest extends Bounds {
    public static void main(String[] args) {
        runAll(RigsBoundsTest.class);
    }

    static void promise18NoSparsIsState() {
        refused("no spars", x -> x.rule(0, 50), NeckShip::rig, STATE);
    }

    static void promise18NoThreadsIsNone() {
        refused("one spar", x -> x.spar(0, 10, 10, 1, 1), NeckShip::rig, NONE);
        refused("ten spars", x -> {
            for (int s = 0; s < 10; s++) {
                x.spar(0, 10, 10, 1, 1);
            }
        }, NeckShip::rig, NONE);
    }

    static void promise18OneSparOneThread() {
        refused("the first", x -> apart(x, 1), NeckShip::rig, 1);
    }

    static void promise18ThreadsThatDoNotRaiseAreNone() {
        NeckShip x = made(m -> m.spar(0, 10, 10, 1, 1));
        x.thread(11, 0, 1);
        due("ahead", x.rig(), NONE);
        x.thread(10, 0, 1);
        due("straight below", x.rig(), NONE);
        x.thread(9, 0, 1);
        due("just behind", x.rig(), 4);
        x.cut(2);
        due("cut", x.rig(), NONE);
    }

    static void promise18TheLastOf16Threads() {
        NeckShip x = made(m -> m.spar(0, 10, 10, 1, 1));
        for (int t = 0; t < 15; t++) {
            x.thread(10 + t, 0, 1);
        }
        due("none raises", x.rig(), NONE);
        x.thread(9, 0, 1);
        due("the last one", x.rig(), 1 << 15);
    }

    static void promise18TenSparsWith16Threads() {
        NeckShip x = made(m -> apart(m, 10));
        due("ten threads", x.rig(), 1023);
        for (int s = 0; s < 6; s++) {
            due("thread", x.thread(5 * s - 1, s, 1), 10 + s);
        }
        due("the lesser ones", x.rig(), 1023);
        for (int t = 0; t < 6; t++) {
            x.cut(t);
        }
        due("the greater ones", x.rig(), 65535 - 63);
        x.cut(15);
        due("one has none", x.rig(), NONE);
    }

    static void promise18EachSparNeedsOne() {
        for (int s = 0; s < 3; s++) {
            int of = s;
            refused("spar " + of + " has none", x -> {
                apart(x, 3);
                x.cut(of);
            }, NeckShip::rig, NONE);
        }
    }

    static void promise18AllThatCrossIsNone() {
        NeckShip x = made(m -> {
            m.spar(0, 10, 10, 1, 1);
            m.spar(0, 10, 10, 1, 1);
            m.thread(0, 0, 10);
            m.thread(0, 1, 10);
        });
        due("in one line", x.rig(), NONE);
        x.thread(0, 1, 9);
        due("a hole in common is no crossing", x.rig(), 1 + 4);
    }

    static void promise18EndsThatTouchDoNotCross() {
        NeckShip x = made(m -> {
            m.spar(0, 10, 20, 1, 1);
            m.spar(0, 10, 20, 1, -1);
            m.thread(0, 0, 10);
            m.thread(20, 1, 10);
        });
        due("one top in common", x.rig(), 3);
    }

    static void promise18LeastAsANumber() {
        // 0 crosses 2; so 0 and 3, which is 9, or 1 and 2, which is 6.
        NeckShip x = made(m -> {
            m.spar(0, 30, 30, 1, -1);
            m.spar(0, 40, 30, 1, 1);
            m.thread(45, 0, 10);
            m.thread(31, 0, 1);
            m.thread(25, 1, 10);
            m.thread(39, 1, 1);
        });
        due("0 and 2 cross", x.cross(0, 2), 1);
        due("0 and 3 do not", x.cross(0, 3), 0);
        due("1 and 2 do not", x.cross(1, 2), 0);
        due("6 is less than 9", x.rig(), 6);
        x.cut(1);
        due("9 is left", x.rig(), 9);
    }

    static void promise18ThreadsThatFitNoneOfAnotherSpar() {
        // Of spar 0, thread 2 crosses 1, the only one of spar 1; threads 0 and 3 do not.
        NeckShip x = made(m -> {
            m.spar(0, 30, 30, 1, -1);
            m.spar(0, 40, 30, 1, 1);
            m.thread(31, 0, 1);
            m.thread(25, 1, 10);
            m.thread(45, 0, 10);
            m.thread(32, 0, 1);
        });
        due("1 and 2 cross", x.cross(1, 2), 1);
        due("one that fits, then one that does not", x.rig(), 3);
        x.cut(0);
        due("one that does not, then one that fits", x.rig(), 2 + 8);
        x.cut(3);
        due("one that does not", x.rig(), NONE);
    }

    static void promise18OfSparsUpToo() {
        NeckShip x = made(m -> apart(m, 3));
        for (int s = 0; s < 3; s++) {
            x.raise(s);
            due("so many up: " + s, x.rig(), 7);
        }
        x.cut(0);
        due("a spar that is up needs one too", x.rig(), NONE);
    }

    static void promise18ASparWithoutAThreadComes() {
        NeckShip x = made(m -> apart(m, 3));
        due("three", x.rig(), 7);
        x.spar(0, 40, 1, 1, 1);
        due("a fourth has none", x.rig(), NONE);
        x.thread(39, 3, 1);
        due("it has one", x.rig(), 15);
    }
}
