import java.util.ArrayList;
import java.util.Arrays;
import java.util.HashSet;
import java.util.List;
import java.util.Random;
import java.util.Set;

/** Random runs of calls, each answer against that of a plain and slow model of the document. */
public final class ModelTest {
    private static final int RUNS = 1500, CALLS = 512;
    private static final String[] CALL_NAMES = {"rule", "spar", "plan", "about", "over", "stack", "fits", "thread",
        "cut", "threaded", "cross", "raise", "lay", "settle", "order", "rising", "rig", "sheet", "lose", "put", "cell",
        "copy", "tell", "name", "as", "trace", "fault", "told"};
    /** How often each call comes. */
    private static final int[] WEIGHTS = {2, 6, 3, 10, 3, 4, 3, 12, 2, 5, 6, 12, 5, 3, 8, 4, 1, 3, 1, 12, 4, 4, 3, 3, 3,
        2, 4, 4};
    private static final int[] WILD = {Integer.MIN_VALUE, Integer.MAX_VALUE, -1, 0, 1, -101, 201, 1000000000};

    public static void main(String[] args) {
        for (int run = 0; run < RUNS; run++) {
            if (!agrees(new Random(7919L * run + 1), run)) {
                System.exit(1);
            }
        }
        System.out.println("the model agrees in " + RUNS + " runs");
    }

    private static boolean agrees(Random random, int run) {
        NeckShip ship = new NeckShip();
        Model model = new Model();
        int longest = run % 3 == 0 ? 60 : run % 3 == 1 ? 12 : 4;
        StringBuilder log = new StringBuilder();
        for (int n = 0; n < CALLS; n++) {
            int call = pick(random);
            int[] a = arguments(random, call, longest);
            long got = ask(ship, call, a);
            long want = model.ask(call, a);
            log.append(CALL_NAMES[call]).append(Arrays.toString(a)).append(" = ").append(got).append('\n');
            if (got != want) {
                System.out.print(log);
                System.out.println("run " + run + ": the model answers " + want);
                return false;
            }
        }
        return true;
    }

    private static int pick(Random random) {
        int at = random.nextInt(Arrays.stream(WEIGHTS).sum());
        for (int call = 0; call < WEIGHTS.length; call++) {
            at -= WEIGHTS[call];
            if (at < 0) {
                return call;
            }
        }
        return 0;
    }

    private static int between(Random random, int least, int greatest) {
        return least + random.nextInt(greatest - least + 1);
    }

    private static int[] arguments(Random r, int call, int longest) {
        int[] a = usual(r, CALL_NAMES[call], longest);
        if (a.length > 0 && r.nextInt(40) == 0) {
            a[r.nextInt(a.length)] = WILD[r.nextInt(WILD.length)];
        }
        return a;
    }

    private static int[] usual(Random r, String call, int longest) {
        int way = r.nextBoolean() ? 1 : -1;
        switch (call) {
            case "rule": return new int[] {between(r, -1, 5), between(r, 0, 101)};
            case "spar": return new int[] {between(r, 0, 2), between(r, 0, 51), between(r, 1, longest), between(r, 1, 9),
                way};
            case "plan": return new int[] {between(r, 0, 3), between(r, 0, 2), between(r, -1, 7), between(r, -1, 2)};
            case "about": return new int[] {between(r, -1, 10), between(r, -1, 10)};
            case "over":
            case "as": return new int[] {between(r, -1, 10), between(r, -1, 10)};
            case "stack": return new int[] {between(r, -70, 170)};
            case "fits":
            case "rising": return new int[] {between(r, -1, 3)};
            case "thread": return new int[] {between(r, -21, 71), between(r, 0, 9), between(r, 1, longest)};
            case "cut": return new int[] {between(r, -1, 40)};
            case "threaded": return new int[] {between(r, -1, 16), between(r, -1, 6)};
            case "cross": return new int[] {between(r, -1, 16), between(r, -1, 16)};
            case "raise":
            case "lay":
            case "tell":
            case "name": return new int[] {between(r, -1, 10)};
            case "order": return new int[] {between(r, -1, 8)};
            case "sheet": return new int[] {between(r, -1, 4), between(r, -1, 3), between(r, -2, 52)};
            case "lose": return new int[] {between(r, -1, 4)};
            case "put": return new int[] {between(r, 0, 3), between(r, -1, 12), putValue(r)};
            case "cell": return new int[] {between(r, -1, 4), between(r, -1, 20), between(r, -1, 3)};
            case "copy": return new int[] {between(r, -1, 4), between(r, -1, 12), between(r, 0, 3), between(r, -1, 12),
                between(r, -1, 12)};
            case "told": return new int[] {between(r, -1, 6)};
            default: return new int[0];
        }
    }

    private static int putValue(Random r) {
        return r.nextInt(5) == 0 ? r.nextInt() : between(r, -1, 2);
    }

    private static long ask(NeckShip x, int call, int[] a) {
        switch (CALL_NAMES[call]) {
            case "rule": return x.rule(a[0], a[1]);
            case "spar": return x.spar(a[0], a[1], a[2], a[3], a[4]);
            case "plan": return x.plan(a[0], a[1], a[2], a[3]);
            case "about": return x.about(a[0], a[1]);
            case "over": return x.over(a[0], a[1]);
            case "stack": return x.stack(a[0]);
            case "fits": return x.fits(a[0]);
            case "thread": return x.thread(a[0], a[1], a[2]);
            case "cut": return x.cut(a[0]);
            case "threaded": return x.threaded(a[0], a[1]);
            case "cross": return x.cross(a[0], a[1]);
            case "raise": return x.raise(a[0]);
            case "lay": return x.lay(a[0]);
            case "settle": return x.settle();
            case "order": return x.order(a[0]);
            case "rising": return x.rising(a[0]);
            case "rig": return x.rig();
            case "sheet": return x.sheet(a[0], a[1], a[2]);
            case "lose": return x.lose(a[0]);
            case "put": return x.put(a[0], a[1], a[2]);
            case "cell": return x.cell(a[0], a[1], a[2]);
            case "copy": return x.copy(a[0], a[1], a[2], a[3], a[4]);
            case "tell": return x.tell(a[0]);
            case "name": return x.name(a[0]);
            case "as": return x.as(a[0], a[1]);
            case "trace": return x.trace();
            case "fault": return x.fault();
            default: return x.told(a[0]);
        }
    }

    private static class Spar {
        int number, foot, length, thick, way;

        boolean covers(int u) {
            for (int step = 0; step < length; step++) {
                if ((way == 1 ? foot + step : foot - step - 1) == u) {
                    return true;
                }
            }
            return false;
        }

        int telling(Model m) {
            return itsOwn(m);
        }

        final int itsOwn(Model m) {
            m.trace = m.trace * 31 + 1;
            return length;
        }

        int naming(Model m) {
            m.trace = m.trace * 31 + 4;
            return number + 10 * thick;
        }
    }

    private static class Mast extends Spar {
        @Override
        int telling(Model m) {
            m.trace = m.trace * 31 + 2;
            return super.telling(m) + foot;
        }
    }

    private static final class Bowsprit extends Mast {
        @Override
        int telling(Model m) {
            m.trace = m.trace * 31 + 3;
            return itsOwn(m) * way;
        }

        @Override
        int naming(Model m) {
            m.trace = m.trace * 31 + 5;
            return 40;
        }
    }

    private static final class Line {
        int hole, place;
        Spar spar;
        boolean whole = true;

        boolean raises(Spar s) {
            return whole && spar == s && (s.way == 1 ? hole < s.foot : hole > s.foot);
        }

        /** Solves (hole, 0) + p (foot - hole, place) = (other.hole, 0) + q (..) for p and q between 0 and 1. */
        boolean crosses(Line other) {
            if (other == this) {
                return false;
            }
            int dx = spar.foot - hole;
            int ox = other.spar.foot - other.hole;
            int apart = other.hole - hole;
            int det = dx * other.place - ox * place;
            if (det == 0) {
                return apart == 0;
            }
            double p = (double) apart * other.place / det;
            double q = (double) apart * place / det;
            return p > 0 && p < 1 && q > 0 && q < 1;
        }
    }

    /** The document, word by word; the sheets' faults are those that the machine throws. */
    private static final class Model {
        static final int UNKNOWN = -1, OUTSIDE = -2, STATE = -3, FULL = -4, NONE = -9;
        final int[] rules = {50, 10, 5, 20, 20};
        final List<Spar> spars = new ArrayList<>();
        final List<Line> lines = new ArrayList<>();
        final Set<Spar> up = new HashSet<>();
        final Object[] sheets = new Object[4];
        int trace = 0, fault = 0;

        long ask(int call, int[] a) {
            String name = CALL_NAMES[call];
            if (Set.of("plan", "sheet", "put", "cell", "copy", "as").contains(name)) {
                return askForFault(name, a);
            }
            switch (name) {
                case "rule": return rule(a[0], a[1]);
                case "spar": return spar(a);
                case "about": return isSpar(a[0]) ? about(spars.get(a[0]), a[1]) : UNKNOWN;
                case "over": return isSpar(a[0]) && isSpar(a[1]) ? one(over(spars.get(a[0]), spars.get(a[1]))) : UNKNOWN;
                case "stack": return a[0] < -100 || a[0] > 200 ? OUTSIDE : stack(a[0]);
                case "fits": return fits(a[0]);
                case "thread": return thread(a[0], a[1], a[2]);
                case "cut": return cut(a[0]);
                case "threaded": return isLine(a[0]) ? threaded(lines.get(a[0]), a[1]) : UNKNOWN;
                case "cross": return isLine(a[0]) && isLine(a[1]) ? one(lines.get(a[0]).crosses(lines.get(a[1]))) : UNKNOWN;
                case "raise": return raise(a[0]);
                case "lay": return lay(a[0]);
                case "settle": return settle();
                case "order": return order(a[0]);
                case "rising": return rising(a[0]);
                case "rig": return rig();
                case "lose": return lose(a[0]);
                case "tell": return isSpar(a[0]) ? spars.get(a[0]).telling(this) : UNKNOWN;
                case "name": return isSpar(a[0]) ? spars.get(a[0]).naming(this) : UNKNOWN;
                case "trace": return trace;
                case "fault": return fault;
                default: return told(a[0]);
            }
        }

        long askForFault(String name, int[] a) {
            fault = 0;
            try {
                switch (name) {
                    case "plan": return plan(a[0], a[1], a[2], a[3]);
                    case "sheet": return sheet(a[0], a[1], a[2]);
                    case "put": return put(a[0], a[1], a[2]);
                    case "cell": return cell(a[0], a[1], a[2]);
                    case "copy": return copy(a[0], a[1], a[2], a[3], a[4]);
                    default: return as(a[0], a[1]);
                }
            } catch (NullPointerException e) {
                fault = 1;
            } catch (ClassCastException | ArrayStoreException e) {
                fault = 2;
            } catch (IndexOutOfBoundsException e) {
                fault = 3;
            } catch (NegativeArraySizeException e) {
                fault = 4;
            }
            return name.equals("cell") ? Long.MIN_VALUE : -10 - fault;
        }

        boolean isSpar(int s) {
            return s >= 0 && s < spars.size();
        }

        boolean isLine(int t) {
            return t >= 0 && t < lines.size();
        }

        int one(boolean b) {
            return b ? 1 : 0;
        }

        int rule(int what, int v) {
            if (what < 0 || what > 4) {
                return UNKNOWN;
            }
            if (v < 1 || v > (what == 0 ? 100 : 60)) {
                return OUTSIDE;
            }
            if (what == 0 && (spars.stream().anyMatch(s -> s.foot > v) || lines.stream().anyMatch(l -> l.hole > v + 20))) {
                return STATE;
            }
            int was = rules[what];
            rules[what] = v;
            return was;
        }

        int refusal(int[] a, int before) {
            if (a[0] < 0 || a[0] > 2 || a[1] < 0 || a[1] > rules[0] || a[2] < 1 || a[2] > 60 || a[3] < 1 || a[3] > 9
                    || a[4] != 1 && a[4] != -1) {
                return OUTSIDE;
            }
            return before >= 10 ? FULL : 0;
        }

        int spar(int[] a) {
            int refusal = refusal(a, spars.size());
            if (refusal != 0) {
                return refusal;
            }
            Spar s = a[0] == 0 ? new Spar() : a[0] == 1 ? new Mast() : new Bowsprit();
            s.number = spars.size();
            s.foot = a[1];
            s.length = a[2];
            s.thick = a[3];
            s.way = a[4];
            spars.add(s);
            return s.number;
        }

        int plan(int k, int lane, int i, int n) {
            if (k < 0 || k > 3) {
                return UNKNOWN;
            }
            if (lane < 0 || lane > 2) {
                return OUTSIDE;
            }
            Object row = taken(k, lane);
            int size = java.lang.reflect.Array.getLength(row);
            if (n < 0) {
                throw new NegativeArraySizeException();
            }
            if (i < 0 || i + 5L * n > size) {
                throw new IndexOutOfBoundsException();
            }
            List<int[]> planned = new ArrayList<>();
            for (int j = 0; j < n; j++) {
                int[] five = new int[5];
                for (int c = 0; c < 5; c++) {
                    five[c] = java.lang.reflect.Array.getInt(row, i + 5 * j + c);
                }
                int refusal = refusal(five, spars.size() + j);
                if (refusal != 0) {
                    return refusal;
                }
                planned.add(five);
            }
            planned.forEach(this::spar);
            return spars.size();
        }

        boolean over(Spar a, Spar b) {
            if (b.number <= a.number) {
                return false;
            }
            for (int u = -100; u <= 200; u++) {
                if (a.covers(u) && b.covers(u)) {
                    return true;
                }
            }
            return false;
        }

        boolean strictlyWithin(int x, Spar s) {
            return s.covers(x - 1) && s.covers(x);
        }

        boolean raised(Spar s) {
            return lines.stream().anyMatch(l -> l.raises(s));
        }

        boolean mayRise(Spar s, Set<Spar> upThen) {
            return !upThen.contains(s) && raised(s)
                    && spars.stream().noneMatch(b -> over(s, b) && !upThen.contains(b))
                    && upThen.stream().noneMatch(b -> strictlyWithin(b.foot, s));
        }

        int about(Spar s, int what) {
            switch (what) {
                case 0: return s instanceof Bowsprit ? 2 : s instanceof Mast ? 1 : 0;
                case 1: return s.foot;
                case 2: return s.length;
                case 3: return s.thick;
                case 4: return s.way;
                case 5: return one(up.contains(s));
                case 6: return one(up.contains(s) && raised(s));
                case 7: return one(mayRise(s, up));
                case 8: return (int) lines.stream().filter(l -> l.raises(s)).count();
                case 9: return (int) spars.stream().filter(b -> over(s, b) && !up.contains(b)).count();
                default: return OUTSIDE;
            }
        }

        int stack(int u) {
            return rules[2] + spars.stream().filter(s -> !up.contains(s) && s.covers(u)).mapToInt(s -> s.thick).sum();
        }

        int fits(int what) {
            int greatest = rules[2];
            for (int u = -100; u <= 200; u++) {
                greatest = Math.max(greatest, stack(u));
            }
            switch (what) {
                case 0: return one(greatest <= rules[4] && rules[1] <= rules[3]);
                case 1: return greatest;
                case 2: return (int) Math.ceil((double) rules[1] / rules[3]);
                default: return OUTSIDE;
            }
        }

        int thread(int hole, int s, int place) {
            if (!isSpar(s)) {
                return UNKNOWN;
            }
            if (hole < -20 || hole > rules[0] + 20 || place < 1 || place > spars.get(s).length) {
                return OUTSIDE;
            }
            if (lines.size() == 16) {
                return FULL;
            }
            Line l = new Line();
            l.hole = hole;
            l.spar = spars.get(s);
            l.place = place;
            lines.add(l);
            return lines.size() - 1;
        }

        int cut(int t) {
            if (!isLine(t)) {
                return UNKNOWN;
            }
            boolean was = lines.get(t).whole;
            lines.get(t).whole = false;
            return one(was);
        }

        int threaded(Line l, int what) {
            switch (what) {
                case 0: return l.hole;
                case 1: return l.spar.number;
                case 2: return l.place;
                case 3: return one(l.whole);
                case 4: return one(l.raises(l.spar));
                case 5: return (int) lines.stream().filter(o -> o.whole && o.crosses(l)).count();
                default: return OUTSIDE;
            }
        }

        int raise(int s) {
            if (!isSpar(s)) {
                return UNKNOWN;
            }
            if (!mayRise(spars.get(s), up)) {
                return STATE;
            }
            up.add(spars.get(s));
            return up.size();
        }

        int lay(int number) {
            if (!isSpar(number)) {
                return UNKNOWN;
            }
            Spar s = spars.get(number);
            if (!up.contains(s) || up.stream().anyMatch(b -> strictlyWithin(b.foot, s))
                    || spars.stream().anyMatch(b -> over(s, b) && !up.contains(b))) {
                return STATE;
            }
            up.remove(s);
            return spars.size() - up.size();
        }

        int settle() {
            int before = up.size();
            up.removeIf(s -> !raised(s));
            return before - up.size();
        }

        int order(int i) {
            if (i < 0 || i >= spars.size() - up.size()) {
                return UNKNOWN;
            }
            List<Integer> order = new ArrayList<>();
            return completes(new HashSet<>(up), order, new HashSet<>()) ? order.get(i) : NONE;
        }

        /** Tries all rows in their order; dead: the sets from which no row goes on to the end. */
        boolean completes(Set<Spar> upThen, List<Integer> order, Set<Set<Spar>> dead) {
            if (upThen.size() == spars.size()) {
                return true;
            }
            if (dead.contains(upThen)) {
                return false;
            }
            for (Spar s : spars) {
                if (mayRise(s, upThen)) {
                    Set<Spar> next = new HashSet<>(upThen);
                    next.add(s);
                    order.add(s.number);
                    if (completes(next, order, dead)) {
                        return true;
                    }
                    order.remove(order.size() - 1);
                }
            }
            dead.add(upThen);
            return false;
        }

        int rising(int what) {
            if (what < 0 || what > 2) {
                return OUTSIDE;
            }
            Set<Set<Spar>> found = new HashSet<>();
            rise(new HashSet<>(up), found);
            int bits = 0;
            for (Set<Spar> set : found) {
                for (Spar s : set) {
                    bits |= 1 << s.number;
                }
            }
            int most = found.stream().mapToInt(Set::size).max().getAsInt();
            return what == 0 ? found.size() : what == 1 ? most : bits;
        }

        void rise(Set<Spar> set, Set<Set<Spar>> found) {
            if (found.add(set)) {
                for (Spar s : spars) {
                    if (mayRise(s, set)) {
                        Set<Spar> next = new HashSet<>(set);
                        next.add(s);
                        rise(next, found);
                    }
                }
            }
        }

        int rig() {
            if (spars.isEmpty()) {
                return STATE;
            }
            for (int set = 0; set < 1 << lines.size(); set++) {
                if (Integer.bitCount(set) == spars.size() && isRig(set)) {
                    return set;
                }
            }
            return NONE;
        }

        boolean isRig(int set) {
            Set<Spar> raised = new HashSet<>();
            for (int t = 0; t < lines.size(); t++) {
                if ((set >> t & 1) == 1) {
                    Line l = lines.get(t);
                    if (!l.raises(l.spar) || !raised.add(l.spar)) {
                        return false;
                    }
                    for (int u = 0; u < t; u++) {
                        if ((set >> u & 1) == 1 && l.crosses(lines.get(u))) {
                            return false;
                        }
                    }
                }
            }
            return raised.size() == spars.size();
        }

        int told(int what) {
            int pairs = 0;
            for (int t = 0; t < lines.size(); t++) {
                for (int u = 0; u < t; u++) {
                    if (lines.get(t).whole && lines.get(u).whole && lines.get(t).crosses(lines.get(u))) {
                        pairs++;
                    }
                }
            }
            switch (what) {
                case 0: return spars.size();
                case 1: return lines.size();
                case 2: return up.size();
                case 3: return (int) up.stream().filter(this::raised).count();
                case 4: return (int) lines.stream().filter(l -> l.whole).count();
                case 5: return pairs;
                default: return OUTSIDE;
            }
        }

        Object newRow(int lane, int n) {
            return lane == 0 ? new byte[n] : lane == 1 ? new short[n] : new int[n];
        }

        /** null, which is no CAST, comes through the cast. */
        Object taken(int k, int lane) {
            Object row = lane == 0 ? (byte[]) sheets[k] : lane == 1 ? (Object) (short[]) sheets[k] : (int[]) sheets[k];
            if (row == null) {
                throw new NullPointerException();
            }
            return row;
        }

        int sheet(int k, int lane, int n) {
            if (k < 0 || k > 3) {
                return UNKNOWN;
            }
            if (lane < 0 || lane > 2 || n > 50) {
                return OUTSIDE;
            }
            sheets[k] = newRow(lane, n);
            return 1;
        }

        int lose(int k) {
            if (k < 0 || k > 3) {
                return UNKNOWN;
            }
            boolean had = sheets[k] != null;
            sheets[k] = null;
            return one(had);
        }

        int put(int k, int i, int v) {
            if (k < 0 || k > 3) {
                return UNKNOWN;
            }
            if (sheets[k] instanceof byte[] bytes) {
                bytes[i] = (byte) v;
            } else if (sheets[k] instanceof short[] shorts) {
                shorts[i] = (short) v;
            } else {
                ((int[]) sheets[k])[i] = v;
            }
            return 1;
        }

        long cell(int k, int i, int lane) {
            if (k < 0 || k > 3 || lane < 0 || lane > 2) {
                return Long.MIN_VALUE;
            }
            switch (lane) {
                case 0: return ((byte[]) sheets[k])[i];
                case 1: return ((short[]) sheets[k])[i];
                default: return ((int[]) sheets[k])[i];
            }
        }

        int copy(int k, int i, int other, int j, int n) {
            if (k < 0 || k > 3 || other < 0 || other > 3) {
                return UNKNOWN;
            }
            System.arraycopy(sheets[k], i, sheets[other], j, n);
            return n;
        }

        int as(int s, int kind) {
            if (!isSpar(s)) {
                return UNKNOWN;
            }
            switch (kind) {
                case 0: return one(Spar.class.cast(spars.get(s)) != null);
                case 1: return one((Mast) spars.get(s) != null);
                case 2: return one((Bowsprit) spars.get(s) != null);
                default: return OUTSIDE;
            }
        }
    }
}
