import java.util.ArrayList;
import java.util.List;

/** Long runs of calls against a slow model, written from the document alone, and what would be against what is. */
public final class ModelTest {
    private static final int NONE = Due.NONE;
    private static final int VOID = Due.VOID;

    /** A FIELD of the model. */
    private static final class Field {
        int name;
        boolean pair;
        boolean fixed;
        boolean hidden;
        int value = VOID;
        int getter = NONE;
        int setter = NONE;
        int n;

        String kind() {
            return name + (pair ? "p" : "") + (fixed ? "f" : "") + (hidden ? "h" : "");
        }
    }

    /** An OBJECT of the model: its SHAPE is a text, its root and its fields one behind the other. */
    private static final class Obj {
        int parent;
        String shape;
        boolean shut;
        boolean watched;
        final List<Field> fields = new ArrayList<>();

        Field field(int name) {
            for (Field f : fields) {
                if (f.name == name) {
                    return f;
                }
            }
            return null;
        }
    }

    /** An ENTRY of the model. */
    private static final class Entry {
        final String shape;
        final int name;
        final int up;

        Entry(String shape, int name, int up) {
            this.shape = shape;
            this.name = name;
            this.up = up;
        }
    }

    /** A PLACE of the model. */
    private static final class Site {
        final List<Entry> entries = new ArrayList<>();
        int hits;
        int misses;
        int cost;
        int last;
        int dropped;
    }

    /** The court of the model. */
    private static final class Model {
        final List<Obj> objects = new ArrayList<>();
        final List<String> shapes = new ArrayList<>();
        final Site[] sites = new Site[6];
        int cost;

        Model() {
            for (int k = 0; k < 6; k++) {
                sites[k] = new Site();
            }
        }

        List<Integer> line(int object) {
            List<Integer> line = new ArrayList<>();
            for (int at = object; at != NONE; at = objects.get(at).parent) {
                line.add(at);
            }
            return line;
        }

        String had(String shape) {
            if (!shapes.contains(shape)) {
                if (shapes.size() == 80) {
                    return null;
                }
                shapes.add(shape);
            }
            return shape;
        }

        int make(int parent) {
            Obj o = new Obj();
            o.parent = parent;
            o.shape = had("r" + parent);
            objects.add(o);
            if (parent != NONE) {
                objects.get(parent).watched = true;
            }
            return objects.size() - 1;
        }

        int held(int value, int n) {
            if (value == VOID || value >= 1000) {
                return value;
            }
            int sum = value + n;
            return sum > 999 ? 999 : sum < -999 ? -999 : sum;
        }

        /** READS, and adds to the cost what it looks at. */
        int read(int object, int name, int getters) {
            for (int at : line(object)) {
                cost++;
                Field f = objects.get(at).field(name);
                if (f == null) {
                    continue;
                }
                if (!f.pair) {
                    return f.value;
                }
                if (f.getter == NONE || getters == 6) {
                    return VOID;
                }
                cost += 2;
                return held(read(object, f.getter, getters + 1), f.n);
            }
            return VOID;
        }

        boolean write(int object, int name, int value, int setters) {
            Obj o = objects.get(object);
            for (int at : line(object)) {
                Field f = objects.get(at).field(name);
                if (f == null) {
                    continue;
                }
                if (f.pair) {
                    return f.setter != NONE && setters < 6
                        && write(object, f.setter, held(value, f.n), setters + 1);
                }
                if (f.fixed) {
                    return false;
                }
                if (at == object) {
                    f.value = value;
                    return true;
                }
                break;
            }
            if (o.shut) {
                return false;
            }
            Field f = new Field();
            f.name = name;
            f.value = value;
            come(object, f);
            return true;
        }

        void come(int object, Field f) {
            Obj o = objects.get(object);
            drop(object);
            o.fields.add(f);
            if (o.shape != null) {
                o.shape = o.fields.size() > 8 ? null : had(o.shape + "." + f.kind());
            }
        }

        boolean put(int object, Field f) {
            Obj o = objects.get(object);
            Field old = o.field(f.name);
            if (old == null && o.shut || old != null && old.fixed) {
                return false;
            }
            if (old == null) {
                come(object, f);
                return true;
            }
            o.fields.set(o.fields.indexOf(old), f);
            if (!old.kind().equals(f.kind())) {
                o.shape = null;
                drop(object);
            }
            return true;
        }

        boolean remove(int object, int name) {
            Field f = objects.get(object).field(name);
            if (f == null || f.fixed) {
                return false;
            }
            drop(object);
            objects.get(object).fields.remove(f);
            objects.get(object).shape = null;
            return true;
        }

        boolean adopt(int object, int parent) {
            Obj o = objects.get(object);
            if (o.parent == parent) {
                return true;
            }
            if (o.shut || parent != NONE && line(parent).contains(object)) {
                return false;
            }
            drop(object);
            o.parent = parent;
            if (parent != NONE) {
                objects.get(parent).watched = true;
            }
            if (o.shape != null) {
                o.shape = o.fields.isEmpty() ? had("r" + parent) : null;
            }
            return true;
        }

        int shut(int object, boolean frozen) {
            Obj o = objects.get(object);
            o.shut = true;
            int became = 0;
            for (Field f : o.fields) {
                if (frozen && !f.pair && !f.fixed) {
                    f.fixed = true;
                    became++;
                }
            }
            if (became > 0) {
                o.shape = null;
                drop(object);
            }
            return became;
        }

        boolean settle(int object) {
            Obj o = objects.get(object);
            if (o.shape == null && o.fields.size() <= 8) {
                String shape = had("r" + o.parent);
                for (Field f : o.fields) {
                    shape = shape == null ? null : had(shape + "." + f.kind());
                }
                o.shape = shape;
            }
            return o.shape != null;
        }

        int rootOf(String shape) {
            int end = shape.indexOf('.');
            return Integer.parseInt(shape.substring(1, end < 0 ? shape.length() : end));
        }

        int drop(int object) {
            if (!objects.get(object).watched) {
                return 0;
            }
            int all = 0;
            for (Site site : sites) {
                int before = site.entries.size();
                site.entries.removeIf(e -> rootOf(e.shape) != NONE && line(rootOf(e.shape)).contains(object));
                site.dropped += before - site.entries.size();
                all += before - site.entries.size();
            }
            return all;
        }

        int readAt(int place, int object, int name) {
            Site site = sites[place];
            String shape = objects.get(object).shape;
            boolean hit = false;
            for (Entry e : site.entries) {
                hit |= e.shape.equals(shape) && e.name == name;
            }
            int up = NONE;
            int looked = 0;
            for (int at : line(object)) {
                if (up == NONE) {
                    looked++;
                    up = objects.get(at).field(name) != null ? looked - 1 : NONE;
                }
            }
            cost = 0;
            int value = read(object, name, 0);
            site.last = hit ? cost - looked + 1 : cost + 4;
            site.cost += site.last;
            site.hits += hit ? 1 : 0;
            site.misses += hit ? 0 : 1;
            if (!hit && shape != null) {
                if (site.entries.size() == 3) {
                    site.entries.remove(0);
                }
                site.entries.add(new Entry(shape, name, up));
            }
            return value;
        }

        int words(Obj o) {
            int words = 3;
            for (Field f : o.fields) {
                words += o.shape == null ? 3 : f.pair ? 2 : 1;
            }
            return words;
        }

        int allWords() {
            int words = 4 * shapes.size();
            for (Obj o : objects) {
                words += words(o);
            }
            for (Site site : sites) {
                words += 3 * site.entries.size();
            }
            return words;
        }

        List<Integer> list(int object) {
            List<Integer> list = new ArrayList<>();
            List<Integer> ahead = new ArrayList<>();
            for (int at : line(object)) {
                List<Field> here = new ArrayList<>(objects.get(at).fields);
                here.sort((a, b) -> Integer.compare(Math.min(a.name, 4), Math.min(b.name, 4)));
                for (Field f : here) {
                    if (!f.hidden && !ahead.contains(f.name)) {
                        list.add(f.name);
                    }
                }
                for (Field f : here) {
                    ahead.add(f.name);
                }
            }
            return list;
        }
    }

    private long seed;

    private int random(int below) {
        seed = seed * 6364136223846793005L + 1442695040888963407L;
        return (int) ((seed >>> 33) % below);
    }

    public static void main(String[] args) {
        for (int run = 0; run < 400; run++) {
            new ModelTest().run(run);
        }
        Due.end();
    }

    private int name(int style) {
        return style % 3 == 0 ? random(12) : random(6) + style % 7;
    }

    private int value(Model model) {
        int kind = random(10);
        if (kind == 0) {
            return VOID;
        }
        if (kind == 1) {
            return 1000 + random(model.objects.size());
        }
        return kind < 4 ? random(1999) - 999 : random(9);
    }

    private void run(int run) {
        seed = run * 7919L + 17;
        ShapeCourt court = new ShapeCourt();
        Model model = new Model();
        int calls = 60 + random(450);
        int most = 2 + random(23);
        for (int k = 0; k < calls; k++) {
            step(court, model, run, most);
            if (k % 16 == 0 || k + 1 == calls) {
                compare(court, model, "run " + run + " call " + k);
                Due.is("run " + run + " digest", court.digest(), DigestTest.madeUp(court));
            }
        }
    }

    private void step(ShapeCourt court, Model model, int run, int most) {
        int there = model.objects.size();
        if (there == 0 || there < most && random(6) == 0) {
            int parent = random(there + 1) - 1;
            Due.is("make " + run, court.make(parent), model.make(parent));
            return;
        }
        int object = random(there);
        int name = name(run);
        int value = value(model);
        int place = random(6);
        boolean one = random(4) == 0;
        boolean two = random(4) == 0;
        long before = court.digest();
        int words = court.many(8);
        int wouldSave = court.wouldSave(object);
        int wouldDrop = court.wouldDrop(object, name);
        int wouldCost = court.wouldCost(place, object, name);
        Due.is("what would be changes nothing " + run, court.digest(), before);
        int dropped = court.many(9);
        switch (random(12)) {
            case 0: case 1: case 2:
                Due.is("write " + run, court.write(object, name, value), model.write(object, name, value, 0));
                break;
            case 3: {
                Field f = new Field();
                f.name = name;
                f.value = value;
                f.fixed = one;
                f.hidden = two;
                Due.is("define " + run, court.define(object, name, value, one, two), model.put(object, f));
                break;
            }
            case 4: {
                Field f = new Field();
                f.name = name;
                f.pair = true;
                f.getter = name(run);
                f.setter = random(3) == 0 ? NONE : name(run);
                f.n = random(199) - 99;
                f.hidden = two;
                Due.is("pair " + run, court.pair(object, name, f.getter, f.setter, f.n, two), model.put(object, f));
                break;
            }
            case 5: {
                boolean gone = court.remove(object, name);
                Due.is("remove " + run, gone, model.remove(object, name));
                if (gone) {
                    Due.is("wouldDrop " + run, court.many(9) - dropped, wouldDrop);
                }
                break;
            }
            case 6: {
                int parent = random(there + 1) - 1;
                Due.is("adopt " + run, court.adopt(object, parent), model.adopt(object, parent));
                break;
            }
            case 7:
                if (random(8) == 0) {
                    Due.is("shut " + run, court.shut(object, one), model.shut(object, one));
                }
                break;
            case 8: case 9:
                Due.is("settle " + run, court.settle(object), model.settle(object));
                Due.is("wouldSave " + run, words - court.many(8), wouldSave);
                break;
            default:
                Due.is("readAt " + run, court.readAt(place, object, name), model.readAt(place, object, name));
                Due.is("wouldCost " + run, court.ofPlace(place, 4), wouldCost);
                break;
        }
    }

    private void compare(ShapeCourt court, Model model, String when) {
        int loose = 0;
        int fields = 0;
        for (int k = 0; k < model.objects.size(); k++) {
            Obj o = model.objects.get(k);
            int children = 0;
            for (Obj other : model.objects) {
                children += other.parent == k ? 1 : 0;
            }
            loose += o.shape == null ? 1 : 0;
            fields += o.fields.size();
            int[] due = {o.parent, o.fields.size(), model.shapes.indexOf(o.shape), o.shut ? 1 : 0,
                o.watched ? 1 : 0, children, model.line(k).size(), model.words(o)};
            for (int what = 0; what < 8; what++) {
                Due.is(when + " ofObject " + k + " " + what, court.ofObject(k, what), due[what]);
            }
            compareFields(court, model, k, when);
        }
        int[] totals = {model.objects.size(), fields, model.shapes.size(), loose};
        for (int what = 0; what < totals.length; what++) {
            Due.is(when + " many " + what, court.many(what), totals[what]);
        }
        Due.is(when + " words", court.many(8), model.allWords());
        compareShapes(court, model, when);
        comparePlaces(court, model, when);
    }

    private void compareFields(ShapeCourt court, Model model, int object, String when) {
        Obj o = model.objects.get(object);
        for (int name = 0; name < 12; name++) {
            Due.is(when + " read", court.read(object, name), model.read(object, name, 0));
            Field f = o.field(name);
            int[] due = f == null ? new int[] {0, VOID, 0, 0, NONE, NONE, NONE}
                : new int[] {f.pair ? 2 : 1, f.value, f.fixed ? 1 : 0, f.hidden ? 1 : 0, f.getter, f.setter,
                    o.fields.indexOf(f)};
            for (int what = 0; what < 7; what++) {
                Due.is(when + " ofField", court.ofField(object, name, what), due[what]);
            }
        }
        List<Integer> list = model.list(object);
        for (int k = 0; k < list.size(); k++) {
            Due.is(when + " listed", court.listed(object, k), list.get(k));
        }
        Due.noIndex(court, when + " listed beyond", () -> court.listed(object, list.size()));
        int other = random(model.objects.size());
        int differing = 0;
        for (int name = 0; name < 12; name++) {
            differing += model.read(object, name, 0) == model.read(other, name, 0) ? 0 : 1;
        }
        Due.is(when + " differs", court.differs(object, other), differing);
    }

    private void compareShapes(ShapeCourt court, Model model, String when) {
        int unused = 0;
        for (int k = 0; k < model.shapes.size(); k++) {
            String shape = model.shapes.get(k);
            int end = shape.lastIndexOf('.');
            String last = end < 0 ? "-1" : shape.substring(end + 1).replaceAll("[a-z]", "");
            int beneath = 0;
            for (String other : model.shapes) {
                beneath += other.startsWith(shape + ".") && other.lastIndexOf('.') == shape.length() ? 1 : 0;
            }
            int having = 0;
            for (Obj o : model.objects) {
                having += shape.equals(o.shape) ? 1 : 0;
            }
            int entries = 0;
            for (Site site : model.sites) {
                for (Entry e : site.entries) {
                    entries += e.shape.equals(shape) ? 1 : 0;
                }
            }
            unused += having == 0 ? 1 : 0;
            int[] due = {end < 0 ? NONE : model.shapes.indexOf(shape.substring(0, end)), model.rootOf(shape),
                shape.split("\\.").length - 1, Integer.parseInt(last), beneath, having, entries};
            for (int what = 0; what < 7; what++) {
                Due.is(when + " ofShape " + shape + " " + what, court.ofShape(k, what), due[what]);
            }
        }
        Due.is(when + " unused shapes", court.many(10), unused);
    }

    private void comparePlaces(ShapeCourt court, Model model, String when) {
        int[] sums = new int[6];
        for (int k = 0; k < 6; k++) {
            Site site = model.sites[k];
            int[] due = {site.entries.size(), site.hits, site.misses, site.cost, site.last, site.dropped};
            for (int what = 0; what < 6; what++) {
                Due.is(when + " ofPlace " + what, court.ofPlace(k, what), due[what]);
                sums[what] += due[what];
            }
            for (int e = 0; e < site.entries.size(); e++) {
                Entry entry = site.entries.get(e);
                Due.is(when + " entry", court.entry(k, e, 0), model.shapes.indexOf(entry.shape));
                Due.is(when + " entry", court.entry(k, e, 1), entry.name);
                Due.is(when + " entry", court.entry(k, e, 2), entry.up);
            }
        }
        int[] whats = {4, 5, 6, 7, 9};
        int[] of = {0, 1, 2, 3, 5};
        for (int k = 0; k < whats.length; k++) {
            Due.is(when + " many " + whats[k], court.many(whats[k]), sums[of[k]]);
        }
        int reads = sums[1] + sums[2];
        Due.isExactly(when + " meanCost", court.meanCost(), reads == 0 ? 0.0 : (double) sums[3] / reads);
    }
}
